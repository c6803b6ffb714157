/-! cells and values of the small machine as the machine has them -/
def mc_cv (z : Nat) (ta : Nat → Nat) : Value → Value
  | .ref k => .ref (z + k)
  | .float w => .ref (ta w.toNat)
  | .int x => .int x
  | .long x => .long x
  | .double x => .double x
  | .null => .null
  | .retAddr x => .retAddr x
theorem mc_cv_cat (z : Nat) (ta : Nat → Nat) (v : Value) : (mc_cv z ta v).category = v.category := by cases v <;> rfl
def mc_ce (z : Nat) (ta : Nat → Nat) (cA : Nat → ClassId) : mc_C → va_E
  | .inl (t, n, f) => .inl (cA t, n, .inl f)
  | .inr (.inl (t, n, f)) => .inl (cA t, n, .inr (.inr (.inr (.inr (fun j => (f j).map (z + ·))))))
  | .inr (.inr (ci, fs)) => .inr (ci, fs.map (mc_cv z ta))
def mc_w (z : Nat) (ta : Nat → Nat) (cA : Nat → ClassId) (G : mc_H) : va_W := G.mapIdx (fun k c => (z + k, mc_ce z ta cA c))
def mc_sz : mc_C → Nat
  | .inl (_, n, _) => n
  | .inr (.inl (_, n, _)) => n
  | .inr (.inr (_, fs)) => fs.length
def mc_sl (G : mc_H) : Nat := (G.map mc_sz).sum
section MCW
variable {z : Nat} {ta : Nat → Nat} {cA : Nat → ClassId} {G : mc_H}
theorem mc_w_get (k : Nat) : (mc_w z ta cA G)[k]? = (G[k]?).map (fun c => (z + k, mc_ce z ta cA c)) := by
  unfold mc_w
  rw [List.getElem?_mapIdx]
theorem mc_w_at {k : Nat} {c : mc_C} (h : G[k]? = some c) : (mc_w z ta cA G)[k]? = some (z + k, mc_ce z ta cA c) := by
  rw [mc_w_get, h]; rfl
theorem mc_w_len : (mc_w z ta cA G).length = G.length := by simp [mc_w]
theorem mc_w_set (k : Nat) (c : mc_C) : (mc_w z ta cA G).set k (z + k, mc_ce z ta cA c) = mc_w z ta cA (G.set k c) := by
  apply List.ext_getElem?
  intro i
  rw [List.getElem?_set, mc_w_get, mc_w_get, List.getElem?_set, mc_w_len]
  by_cases hk : k = i
  · subst hk
    by_cases hl : k < G.length
    · simp [hl]
    · simp [hl]
  · simp [hk]
theorem mc_w_app (c : mc_C) : mc_w z ta cA (G ++ [c]) = mc_w z ta cA G ++ [(z + G.length, mc_ce z ta cA c)] := by
  unfold mc_w
  rw [List.mapIdx_append]
  simp
theorem mc_w_D : va_D (fun q => z ≤ q) (mc_w z ta cA G) := by
  refine ⟨fun i j p q hi hj hpq => ?_, fun k q hk => ?_⟩
  · rw [mc_w_get] at hi hj
    obtain ⟨a, -, rfl⟩ := Option.map_eq_some_iff.mp hi
    obtain ⟨b, -, rfl⟩ := Option.map_eq_some_iff.mp hj
    dsimp only at hpq
    omega
  · rw [mc_w_get] at hk
    obtain ⟨a, -, rfl⟩ := Option.map_eq_some_iff.mp hk
    exact Nat.le_add_right _ _
theorem mc_sl_set {k : Nat} {c c' : mc_C} (h : G[k]? = some c) (hs : mc_sz c' = mc_sz c) : mc_sl (G.set k c') = mc_sl G := by
  unfold mc_sl
  congr 1
  apply List.ext_getElem?
  intro i
  rw [List.getElem?_map, List.getElem?_map, List.getElem?_set]
  by_cases hk : k = i
  · subst hk
    have hl := (List.getElem?_eq_some_iff.mp h).1
    simp [hl, h, hs]
    obtain ⟨_, he⟩ := List.getElem?_eq_some_iff.mp h
    rw [he]
  · simp [hk]
theorem mc_sl_app (c : mc_C) : mc_sl (G ++ [c]) = mc_sl G + mc_sz c := by simp [mc_sl]
end MCW
/-- the variables -/
def mc_L (z : Nat) (ta : Nat → Nat) (la : Array Slot) (nL : Nat) (lv : List Value) : Prop :=
  lv.length = nL ∧ la.size = nL ∧ lv_wf la ∧ (∀ (k : Nat) (v : Value), lv[k]? = some v → v.category = 1) ∧ ∀ (k : Nat) (v : Value), lv[k]? = some v → v ≠ Value.null → la[k]? = some (Slot.val (mc_cv z ta v))
def mc_as (z : Nat) (ta : Nat → Nat) (lv : List Value) : List (Nat × Value) := (List.range lv.length).filterMap (fun (k : Nat) => match lv[k]? with
  | some Value.null => none
  | some v => some (k, mc_cv z ta v)
  | none => none)
section MCL
variable {z : Nat} {ta : Nat → Nat} {la : Array Slot} {nL : Nat} {lv : List Value}
theorem mc_as_mem {k : Nat} {v : Value} (h : lv[k]? = some v) (hn : v ≠ .null) : (k, mc_cv z ta v) ∈ mc_as z ta lv := by
  refine List.mem_filterMap.mpr ⟨k, List.mem_range.mpr (List.getElem?_eq_some_iff.mp h).1, ?_⟩
  rw [h]
  cases v <;> first | rfl | exact absurd rfl hn
theorem mc_L.has (h : mc_L z ta la nL lv) : lv_has la nL (mc_as z ta lv) := by
  obtain ⟨h1, h2, h3, h4, h5⟩ := h
  refine ⟨h2, h3, fun q hq => ?_⟩
  obtain ⟨k, -, hk⟩ := List.mem_filterMap.mp hq
  cases hv : lv[k]? with
  | none => rw [hv] at hk; cases hk
  | some v =>
    rw [hv] at hk
    have h6 := h5 k v hv
    cases v <;> first | (cases hk; done) | (cases hk; exact h6 (fun e => by cases e))
theorem mc_L.at (h : mc_L z ta la nL lv) {k : Nat} {v : Value} (hk : lv[k]? = some v) (hn : v ≠ .null) : la[k]? = some (.val (mc_cv z ta v)) := h.2.2.2.2 k v hk hn
theorem mc_L.set (h : mc_L z ta la nL lv) {k : Nat} {v : Value} (hv : v.category = 1) {la' : Array Slot} (h' : lv_has la' nL ((k, mc_cv z ta v) :: (mc_as z ta lv).filter (fun q => !(q.1 == k) && !(q.1 + 1 == k && q.2.category == 2)))) : mc_L z ta la' nL (lv.set k v) := by
  obtain ⟨h1, h2, h3, h4, h5⟩ := h
  refine ⟨by rw [List.length_set]; exact h1, h'.1, h'.2.1, fun j w hj => ?_, fun j w hj hn => ?_⟩
  · rw [List.getElem?_set] at hj
    by_cases hk : k = j
    · rw [if_pos hk] at hj
      split at hj
      · cases hj; exact hv
      · cases hj
    · rw [if_neg hk] at hj
      exact h4 j w hj
  · rw [List.getElem?_set] at hj
    by_cases hk : k = j
    · rw [if_pos hk] at hj
      split at hj
      · cases hj
        rw [← hk]
        exact h'.2.2 _ List.mem_cons_self
      · cases hj
    · rw [if_neg hk] at hj
      have hc := h4 j w hj
      refine h'.2.2 (j, mc_cv z ta w) (List.mem_cons_of_mem _ (List.mem_filter.mpr ⟨mc_as_mem hj hn, ?_⟩))
      have e1 : (j == k) = false := by simp [Ne.symm hk]
      have e2 : ((mc_cv z ta w).category == 2) = false := by rw [mc_cv_cat, hc]; rfl
      simp only [e1, e2]
      simp
theorem mc_args_mem : ∀ (vs : List Value) (i : Nat), (∀ v ∈ vs, v.category = 1) → ∀ (k : Nat) (v : Value), vs[k]? = some v → (i + k, v) ∈ lv_args i vs
  | [], _, _ => fun k v h => by simp at h
  | w :: vs, i, hc => fun k v h => by
    have hw : w.category = 1 := hc w List.mem_cons_self
    have e : lv_args i (w :: vs) = (i, w) :: lv_args (i + 1) vs := by
      show (i, w) :: lv_args (if w.category = 2 then i + 2 else i + 1) vs = _
      rw [hw]; rfl
    rw [e]
    cases k with
    | zero => simp at h; rw [h]; exact List.mem_cons_self
    | succ k =>
      rw [List.getElem?_cons_succ] at h
      have := mc_args_mem vs (i + 1) (fun v hv => hc v (List.mem_cons_of_mem _ hv)) k v h
      rw [show i + (k + 1) = i + 1 + k by omega]
      exact List.mem_cons_of_mem _ this
theorem mc_sl_len : ∀ (vs : List Value), (∀ v ∈ vs, v.category = 1) → (lg_sl vs).length = vs.length
  | [], _ => rfl
  | w :: vs, hc => by
    have hw : w.category = 1 := hc w List.mem_cons_self
    have := mc_sl_len vs (fun v hv => hc v (List.mem_cons_of_mem _ hv))
    unfold lg_sl at this ⊢
    rw [List.flatMap_cons, hw]
    simp only [List.length_append, this]
    simp
    omega
/-- at a method's entry -/
theorem mc_L.entry (vs : List Value) {n : Nat} (hc : ∀ v ∈ vs, v.category = 1) (hn : vs.length ≤ n) : mc_L z ta ((lg_sl (vs.map (mc_cv z ta)) ++ List.replicate (n - (lg_sl (vs.map (mc_cv z ta))).length) Slot.unset).toArray) n (mc_pad n vs) := by
  have hc' : ∀ v ∈ vs.map (mc_cv z ta), v.category = 1 := by
    intro v hv
    obtain ⟨w, hw, rfl⟩ := List.mem_map.mp hv
    rw [mc_cv_cat]; exact hc w hw
  have hlen := mc_sl_len _ hc'
  rw [List.length_map] at hlen
  obtain ⟨g1, g2, g3⟩ := lv_entry (vs.map (mc_cv z ta)) (n := n) (by omega)
  refine ⟨by simp [mc_pad]; omega, g1, g2, fun k v hk => ?_, fun k v hk hv => ?_⟩
  · unfold mc_pad at hk
    rcases List.mem_append.mp (List.mem_of_getElem? hk) with h | h
    · exact hc v h
    · rw [(List.mem_replicate.mp h).2]; rfl
  · unfold mc_pad at hk
    by_cases hkl : k < vs.length
    · rw [List.getElem?_append_left hkl] at hk
      have := mc_args_mem (vs.map (mc_cv z ta)) 0 hc' k (mc_cv z ta v) (by rw [List.getElem?_map, hk]; rfl)
      rw [Nat.zero_add] at this
      exact g3 _ this
    · rw [List.getElem?_append_right (by omega)] at hk
      exact absurd (List.mem_replicate.mp (List.mem_of_getElem? hk)).2 hv
end MCL
/-- the words that live through a call -/
def mc_Ts : List Cond := lw_tbl.filter goodWord
def mc_tys (cA : Nat → ClassId) : List (ClassId × FieldType) := [(cA 0, .int), (cA 1, .boolean), (cA 2, .object RX5), (cA 3, .object RX6)]
/-- what stands around all calls: class tables, static tables, words of nest mates -/
def mc_U (z : Nat) (ta : Nat → Nat) (cA : Nat → ClassId) (D : va_G) (X : mc_X) (U : State) : Prop :=
  va_K D vwCl (mc_tys cA) U ∧ (∀ i, i < 3 → va_Z "NeedlePlate" (mc_sn i) "[I" (.ref (ta i)) (fun q => z ≤ q) U U.heap) ∧ (∀ i, i < 4 → va_T .int (ta i) (X i).1 (fun j => .int ((X i).2 j)) (fun q => z ≤ q) U U.heap) ∧
  (∀ a i b n d h, Cond.fieldLinkNest a i b n d h ∈ lw_tbl → va_Nw (.fieldLinkNest a i b n d h) U) ∧ (∀ a i x h, Cond.methodLinkNest a i x h ∈ lw_tbl → va_Nw (.methodLinkNest a i x h) U) ∧ (va_AO RX5 U ∧ va_AO RX6 U) ∧ z ≤ U.heap.size
section MCU
variable {z : Nat} {ta : Nat → Nat} {cA : Nat → ClassId} {D : va_G} {X : mc_X}
theorem mc_U.at {s U : State} (h : mc_U z ta cA D X s) (hW : s.WarmedH U.vm) (hz : z ≤ U.heap.size) (hq : ∀ q : Nat, q < s.heap.size → ¬ z ≤ q → U.heap[q]? = s.heap[q]?) : mc_U z ta cA D X U := by
  obtain ⟨h1, h2, h3, h4, h5, ⟨h6, h7⟩, h8⟩ := h
  refine ⟨va_K.moved hW.alike h1, fun i hi => ((h2 i hi).moved hW.alike).kept hq, fun i hi => ((h3 i hi).moved hW.alike).kept hq, fun a i b n d hh hm => va_Nw.warmF hW (h4 a i b n d hh hm), fun a i x hh hm => va_Nw.warmM hW (h5 a i x hh hm), ⟨va_AO.moved hW.alike h6, va_AO.moved hW.alike h7⟩, hz⟩
theorem mc_U.blind {U : State} {g : JFrame} {mk : MethodId} {a : Array Value} (h : mc_U z ta cA D X U) : mc_U z ta cA D X (U.calling g mk a) := by
  obtain ⟨h1, h2, h3, h4, h5, ⟨h6, h7⟩, h8⟩ := h
  have e : U.vm.Alike (U.calling g mk a).vm := Vm.Alike.refl U.vm
  exact ⟨va_K.moved e h1, fun i hi => (h2 i hi).moved e, fun i hi => (h3 i hi).moved e, fun a i b n d hh hm => va_Nw.same rfl rfl (h4 a i b n d hh hm), fun a i x hh hm => va_Nw.same rfl rfl (h5 a i x hh hm), ⟨va_AO.moved e h6, va_AO.moved e h7⟩, h8⟩
end MCU
