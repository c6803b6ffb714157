def mc_end (mi pc : Nat) (r : Option Value) : Prop := match r with
  | none => decode (mc_by mi) pc = .ok (.return_, 1) ∧ mc_rt mi = none
  | some (.int v) => decode (mc_by mi) pc = .ok (.ireturn, 1) ∧ (mc_rt mi = some .int ∨ (mc_rt mi = some .boolean ∧ (v = 0 ∨ v = 1)))
  | some (.long _) => decode (mc_by mi) pc = .ok (.lreturn, 1) ∧ mc_rt mi = some .long
  | some (.ref _) => decode (mc_by mi) pc = .ok (.areturn, 1) ∧ ∃ C, mc_rt mi = some (.object C)
  | _ => False
set_option maxHeartbeats 4000000 in
theorem mc_ex_end {X : mc_X} {mi pc : Nat} {E : mc_E} {ls st : List Value} {G : mc_H} {r : Option Value} (hE : mc_code mi pc = some E) (h : mc_ex X mi pc E ls st G = some (.inr (.inr r))) : mc_end mi pc r ∧ st = r.toList := by
  obtain ⟨hd, -, hln⟩ := mc_dec hE
  obtain ⟨ins, len, a, b, w, kc⟩ := E
  dsimp only at hd hln h
  unfold mc_ex at h
  dsimp only at h
  split at h
  all_goals try (cases h; done)
  all_goals try split at h
  all_goals try (cases h; done)
  all_goals try split at h
  all_goals try (cases h; done)
  all_goals try split at h
  all_goals try (cases h; done)
  all_goals try split at h
  all_goals try (cases h; done)
  all_goals try split at h
  all_goals try (cases h; done)
  all_goals try split at h
  all_goals try (cases h; done)
  all_goals try split at h
  all_goals try (cases h; done)
  all_goals try split at h
  all_goals try (cases h; done)
  · rename_i hq
    cases h
    cases of_decide_eq_true hln
    exact ⟨⟨hd, hq⟩, rfl⟩
  · rename_i hq
    cases h
    cases of_decide_eq_true hln
    exact ⟨⟨hd, hq⟩, rfl⟩
  · rename_i hq
    cases h
    cases of_decide_eq_true hln
    exact ⟨⟨hd, _, hq⟩, rfl⟩
  · rename_i hq
    cases h
    cases of_decide_eq_true hln
    exact ⟨⟨hd, hq⟩, rfl⟩
set_option maxHeartbeats 4000000 in
theorem mc_ex_call {X : mc_X} {mi pc cm : Nat} {E : mc_E} {ls st cl rest : List Value} {G : mc_H} (h : mc_ex X mi pc E ls st G = some (.inr (.inl (cm, cl, rest)))) :
    rest.length ≤ 4 ∧ cm = E.2.2.1 ∧ mc_c1 (st.take (mc_np cm)) = true ∧
    ((∃ i b, E.1 = .invokevirtual i ∧ st = st.take (mc_np cm) ++ .ref b :: rest ∧ mc_cls G b = some (mc_own cm) ∧ cl = mc_pad (mc_ml cm) (.ref b :: (st.take (mc_np cm)).reverse)) ∨
     (∃ i b, E.1 = .invokespecial i ∧ cm ≠ 999 ∧ st = st.take (mc_np cm) ++ .ref b :: rest ∧ cl = mc_pad (mc_ml cm) (.ref b :: (st.take (mc_np cm)).reverse)) ∨
     (∃ i, E.1 = .invokestatic i ∧ (cm ≠ 998 ∧ cm ≠ 176 ∧ cm ≠ 177 ∧ cm ≠ 178) ∧ mc_np cm ≤ st.length ∧ st = st.take (mc_np cm) ++ rest ∧ cl = mc_pad (mc_ml cm) (st.take (mc_np cm)).reverse)) := by
  obtain ⟨ins, len, a, b, w, kc⟩ := E
  unfold mc_ex at h
  dsimp only at h
  split at h
  all_goals try (cases h; done)
  all_goals try split at h
  all_goals try (cases h; done)
  all_goals try split at h
  all_goals try (cases h; done)
  all_goals try split at h
  all_goals try (cases h; done)
  all_goals try split at h
  all_goals try (cases h; done)
  all_goals try split at h
  all_goals try (cases h; done)
  all_goals try split at h
  all_goals try (cases h; done)
  all_goals try split at h
  all_goals try (cases h; done)
  all_goals try split at h
  all_goals try (cases h; done)
  · rename_i b0 rest0 hdr hq
    cases h
    refine ⟨hq.1, rfl, hq.2, Or.inr (Or.inl ⟨_, b0, rfl, by assumption, ?_, rfl⟩)⟩
    rw [← hdr, List.take_append_drop]
  · rename_i b0 rest0 hdr hq
    cases h
    refine ⟨hq.1, rfl, hq.2.2, Or.inl ⟨_, b0, rfl, ?_, hq.2.1, rfl⟩⟩
    rw [← hdr, List.take_append_drop]
  · rename_i hq
    cases h
    refine ⟨hq.2.1, rfl, hq.2.2, Or.inr (Or.inr ⟨_, rfl, ⟨by assumption, by assumption, by assumption, by assumption⟩, hq.1, ?_, rfl⟩)⟩
    rw [List.take_append_drop]
theorem mc_ex_grow {X : mc_X} {mi pc pc' : Nat} {E : mc_E} {ls st ls' st' : List Value} {G G' : mc_H} (h : mc_ex X mi pc E ls st G = some (.inl (pc', ls', st', G'))) : G.length ≤ G'.length ∧ mc_sl G ≤ mc_sl G' := by
  have key : ∀ {k : Nat} {c c' : mc_C}, G[k]? = some c → mc_sz c' = mc_sz c → G.length ≤ (G.set k c').length ∧ mc_sl G ≤ mc_sl (G.set k c') := fun h1 h2 => ⟨by rw [List.length_set]; exact Nat.le_refl _, by rw [mc_sl_set h1 h2]; exact Nat.le_refl _⟩
  rcases mc_ex_grow0 h with rfl | ⟨c, rfl⟩ | ⟨k, ci, j, v, hq⟩ | ⟨t, k, i, x, hq⟩ | ⟨k, i, v, hq⟩ | ⟨a0, a, sp, dp, n, hq⟩
  · exact ⟨Nat.le_refl _, Nat.le_refl _⟩
  · exact ⟨by simp, by rw [mc_sl_app]; exact Nat.le_add_right _ _⟩
  · unfold mc_setf at hq
    split at hq
    · rename_i hG
      split at hq
      · cases hq
        exact key hG (by simp [mc_sz])
      · cases hq
    · cases hq
  · unfold mc_setA at hq
    split at hq
    · rename_i hG
      split at hq
      · cases hq
        exact key hG rfl
      · cases hq
    · cases hq
  · unfold mc_setQ at hq
    split at hq
    · rename_i hG
      split at hq
      · cases hq
        exact key hG rfl
      · cases hq
    · cases hq
  · unfold mc_cpy at hq
    split at hq
    · rename_i hG0 hG1
      split at hq
      · cases hq
        exact key hG1 rfl
      · cases hq
    · cases hq
/-- a method's start and end in words of the small machine -/
def mc_Pc (z : Nat) (ta : Nat → Nat) (cA : Nat → ClassId) (D : va_G) (X : mc_X) (vs : List Value) (G : mc_H) : Array Value → State → Prop := va_Pc (vs.map (mc_cv z ta)) (fun U => mc_U z ta cA D X U ∧ va_P D vwCl (mc_w z ta cA G) U.heap ∧ U.heap.size = z + G.length)
def mc_Qc (z : Nat) (ta : Nat → Nat) (cA : Nat → ClassId) (D : va_G) (r : Option Value) (G' : mc_H) : Array Value → State → Outcome → State → Prop := fun _ st oc t => oc = .returned (r.map (mc_cv z ta)) ∧ va_P D vwCl (mc_w z ta cA G') t.heap ∧ va_F (fun q => z ≤ q) st t
def mc_Wd (mi : Nat) : List Cond := Cond.code (mc_y mi) (mc_by mi) (mc_ml mi) (mc_rt mi) :: mc_Ts
def mc_rm (mi : Nat) (G G' : mc_H) : Room := { frames := mc_rk mi, cells := G'.length - G.length, slots := mc_sl G' - mc_sl G, locals := 30 * mc_rk mi }
section MCC
variable {z : Nat} {ta : Nat → Nat} {cA : Nat → ClassId} {D : va_G} {X : mc_X}
variable {p : Program} {l : Launch} {e : Env} {R : Room} {s : State} {m : MethodId} {args : Array Value} {below : List Frame} {meth : Method} {c : Code} {H : Heap} {locs : List Loc} {cells slots sl0 : Nat} {Q : State → Prop}
theorem mc_Pc_blind {vs : List Value} {G : mc_H} : FrameBlind (mc_Pc z ta cA D X vs G) := fun a U g mk h => ⟨h.1, h.2.1.blind, h.2.2.1, h.2.2.2⟩
theorem mc_good (mi : Nat) (h : mc_mtP (mc_meth mi)) : GoodIn mc_Ts (mc_Wd mi) := by
  intro w hw
  have key : ∀ w ∈ mc_Ts, w ∈ mc_Ts ∧ ((w.onTables && w.keeps) = true ∨ ∃ ty, w = .arrayClass ty) := fun w hw => ⟨hw, good_of_word (List.mem_filter.mp hw).2⟩
  rcases List.mem_cons.mp hw with rfl | hw
  · exact key _ (mc_Ts_in h.1 rfl)
  · exact key _ hw
/-- behind a call -/
theorem mc_call_go {mc ms pc : Nat} {la : Array Slot} {st0 rest : List Value} {r : Option Value} {G' : mc_H} {a : Array Value} (hr : va_Run p l e R s m args below meth c H locs cells slots mc ms (F0 m pc la st0) rest (mc_Qc z ta cA D r G' a) (fun q => z ≤ q)) (hS : va_S (fun q => z ≤ q) s.heap H locs)
    (kk : ∀ (H1 : Heap) (locs1 : List Loc), va_P D vwCl (mc_w z ta cA G') H1 → va_S (fun q => z ≤ q) s.heap H1 locs1 → W p l e R s m args below meth c H1 locs1 (cells + mc) (slots + ms) Q (F0 m (pc + 3) la ((r.map (mc_cv z ta)).toList ++ rest))) : W p l e R s m args below meth c H locs cells slots Q (F0 m pc la st0) := by
  intro T hT Y
  obtain ⟨v, st₀, t, T', L, h0, Y', hL, e1, e2, ⟨hv, hP1, hF1, hF2⟩, st⟩ := hr T hT Y
  cases hv
  obtain ⟨t2, a1, b1⟩ := kk T'.heap (locs ++ L) (by rw [e1]; exact hP1) ⟨by rw [e1]; rw [h0] at hF1; exact Nat.le_trans hS.1 hF1, fun q h1 h2 => by
    rw [e1, hF2 q (by rw [h0]; exact Nat.lt_of_lt_of_le h1 hS.1) h2, h0]
    exact hS.2.1 q h1 h2, fun q hq => (List.mem_append.mp hq).elim (hS.2.2 q) (hL q)⟩ T' rfl Y'
  exact ⟨t2, st t2 a1, b1⟩
/-- from every frame of the small machine that comes to its end, the machine comes to the same end -/
def mc_Snd (z : Nat) (ta : Nat → Nat) (cA : Nat → ClassId) (D : va_G) (X : mc_X) (l : Launch) (mi pc : Nat) (ls st : List Value) (G : mc_H) (r : Option Value) (Gf : mc_H) : Prop :=
  (G.length ≤ Gf.length ∧ mc_sl G ≤ mc_sl Gf) ∧ ∀ (p : Program) (e : Env) (R : Room) (s : State) (m : MethodId) (args : Array Value) (below : List Frame) (meth : Method) (c : Code) (H : Heap) (locs : List Loc) (cells slots sl0 : Nat) (la : Array Slot) (Q : State → Prop),
    mc_Cx z ta cA D X p R s m args meth c mi → va_P D vwCl (mc_w z ta cA G) H → va_S (fun q => z ≤ q) s.heap H locs → mc_L z ta la (mc_ml mi) ls → s.heap.size + cells = z + G.length → sl0 + slots = mc_sl G → z + Gf.length ≤ s.heap.size + R.cells → mc_sl Gf ≤ sl0 + R.slots →
    (∀ (pc' : Nat) (H' : Heap) (locs' : List Loc) (cells' slots' : Nat) (la' : Array Slot), mc_end mi pc' r → va_P D vwCl (mc_w z ta cA Gf) H' → va_S (fun q => z ≤ q) s.heap H' locs' → s.heap.size + cells' = z + Gf.length → sl0 + slots' = mc_sl Gf → W p l e R s m args below meth c H' locs' cells' slots' Q (F0 m pc' la' (r.map (mc_cv z ta)).toList)) →
    W p l e R s m args below meth c H locs cells slots Q (F0 m pc la (st.map (mc_cv z ta)))
set_option maxHeartbeats 4000000 in
/-- a contract out of a run -/
theorem mc_met {cm : Nat} {vs : List Value} {G Gf : mc_H} {r : Option Value} (hM : mc_mtP (mc_meth cm)) (hv1 : ∀ v ∈ vs, v.category = 1) (hv2 : vs.length ≤ mc_ml cm) (hS : mc_Snd z ta cA D X l cm 0 (mc_pad (mc_ml cm) vs) [] G r Gf) :
    Met l (mc_y cm) (mc_Wd cm) (mc_rm cm G Gf) (mc_Pc z ta cA D X vs G) (mc_Qc z ta cA D r Gf) (Gf.length - G.length) (mc_sl Gf - mc_sl G) (fun q => z ≤ q) := by
  obtain ⟨⟨hg1, hg2⟩, hrun⟩ := hS
  have hmok := hM.2
  simp only [mc_mok, Bool.and_eq_true, decide_eq_true_eq] at hmok
  obtain ⟨⟨⟨⟨⟨⟨⟨⟨⟨-, -⟩, -⟩, -⟩, -⟩, hpl⟩, -⟩, hnm⟩, -⟩, -⟩ := hmok
  refine Met.ofW (cc := mc_by cm) (maxL := mc_ml cm) (ret := mc_rt cm) hpl rfl ?_
  intro p e s m args below meth c s₁ B hml hv
  obtain ⟨rfl, hU, hP, hsz⟩ := hv
  have hts := atoms_spec (ws := mc_Wd cm) B.pre
  have hown : s.vm.findClass (mc_nm (mc_own cm)) = some m.cls := by
    have := findClass_of_methodNamed B.named
    rw [show mc_nm (mc_own cm) = (mc_y cm).cls from hnm]
    exact this
  have hlocks := B.notSynchronized
  have hret : meth.sig.returnType = mc_rt cm := B.returns
  have hx := B.exec
  have hb : c.code = mc_by cm := B.bytes
  rw [lg_entry_eq]
  refine hrun p e _ s m _ below meth c s.heap [] 0 0 (mc_sl G) _ _ ⟨B.exec, B.bytes, hml, hown, fun w hw => hts w (List.mem_cons_of_mem _ hw), hU, fun q => by rw [(name_of_methodNamed B.named B.method).1]; exact q, Nat.le_refl _, Nat.le_refl _⟩ hP va_S.rf (mc_L.entry vs hv1 hv2) hsz rfl (by show z + Gf.length ≤ s.heap.size + (Gf.length - G.length); omega) (by show mc_sl Gf ≤ mc_sl G + (mc_sl Gf - mc_sl G); omega) ?_
  intro pc' H' locs' cells' slots' la' hend hP' hS' hc' hs'
  have e1 : cells' = Gf.length - G.length := by omega
  have e2 : slots' = mc_sl Gf - mc_sl G := by omega
  subst e1
  subst e2
  have hq : ∀ t : State, t.heap = H' → mc_Qc z ta cA D r Gf (vs.map (mc_cv z ta)).toArray s (.returned (r.map (mc_cv z ta))) t := fun t ht => ⟨rfl, by rw [ht]; exact hP', hS'.F ht⟩
  unfold mc_end at hend
  split at hend
  · exact W.vret hx hb (by rw [hret]; exact hend.2) (fun t ht _ => hq t ht) hS'.2.2 hend.1
  · rcases hend.2 with h | ⟨h, h2⟩
    · exact W.iret hx hb (by rw [hret]; exact h) (fun t ht _ => hq t ht) hS'.2.2 hend.1
    · refine W.zret (ty := .boolean) hx hb (by rw [hret]; exact h) ?_ (fun t ht _ => hq t ht) hS'.2.2 hend.1
      rcases h2 with rfl | rfl <;> rfl
  · exact W.lret hx hb (by rw [hret]; exact hend.2) (fun t ht _ => hq t ht) hS'.2.2 hend.1
  · obtain ⟨C, hC⟩ := hend.2
    exact W.aret hx hb (by rw [hret]; exact hC) (Or.inl ⟨C, rfl⟩) (Or.inr ⟨_, rfl⟩) (fun t ht _ => hq t ht) hS'.2.2 hend.1
  · exact hend.elim
set_option maxHeartbeats 4000000 in
/-- THE SMALL MACHINE IS SOUND -/
theorem mc_sound : ∀ (n mi pc : Nat) (ls st : List Value) (G : mc_H) (r : Option Value) (Gf : mc_H), mc_run X n mi pc ls st G = some (r, Gf) → mc_Snd z ta cA D X l mi pc ls st G r Gf
  | 0, _, _, _, _, _, _, _, h => by cases h
  | n + 1, mi, pc, ls, st, G, r, Gf, h => by
    have h : mc_F X (mc_run X n) mi pc ls st G = some (r, Gf) := h
    unfold mc_F at h
    cases hE : mc_code mi pc with
    | none =>
      have hst0 : mc_st X mi pc ls st G = none := by unfold mc_st; rw [hE]
      rw [hst0] at h
      cases h
    | some E =>
    have hst0 : mc_st X mi pc ls st G = mc_ex X mi pc E ls st G := by unfold mc_st; rw [hE]
    rw [hst0] at h
    clear hst0
    split at h
    · rename_i pc' ls' st' G' hx
      have ih := mc_sound n mi pc' ls' st' G' r Gf h
      have hg := mc_ex_grow hx
      refine ⟨⟨Nat.le_trans hg.1 ih.1.1, Nat.le_trans hg.2 ih.1.2⟩, ?_⟩
      intro p e R s m args below meth c H locs cells slots sl0 la Q C hP hS hl hc hs hRc hRs hend
      refine mc_step_sound C hE hx hP hS hl hc hs (Nat.le_trans (Nat.add_le_add_left ih.1.1 z) hRc) (Nat.le_trans ih.1.2 hRs) ?_
      intro H' locs' cells' slots' la' hP' hS' hl' hc' hs'
      exact ih.2 p e R s m args below meth c H' locs' cells' slots' sl0 la' Q C hP' hS' hl' hc' hs' hRc hRs hend
    · rename_i cm cl rest hx
      cases h1 : mc_run X n cm 0 cl [] G with
      | none => rw [h1] at h; cases h
      | some q =>
      obtain ⟨v, G1⟩ := q
      rw [h1] at h
      have ih1 := mc_sound n cm 0 cl [] G v G1 h1
      have ih2 := mc_sound n mi (pc + 3) ls (v.toList ++ rest) G1 r Gf h
      refine ⟨⟨Nat.le_trans ih1.1.1 ih2.1.1, Nat.le_trans ih1.1.2 ih2.1.2⟩, ?_⟩
      intro p e R s m args below meth c H locs cells slots sl0 la Q C hP hS hl hc hs hRc hRs hend
      obtain ⟨hd, hk, hln⟩ := mc_dec hE
      obtain ⟨hx0, hb, hml, hown, hts, hU, hnm, hrf, hrl⟩ := id C
      obtain ⟨hr4, hcm, hc1, hcall⟩ := mc_ex_call hx
      obtain ⟨ins, len, a, b, w, kc⟩ := E
      dsimp only at hd hk hln hcm hcall
      subst hcm
      have hcat : ∀ v ∈ st.take (mc_np cm), v.category = 1 := by
        intro v hv
        have := List.all_eq_true.mp hc1 v hv
        simpa using this
      have hg1 := ih1.1
      have hg2 := ih2.1
      have hpre : ∀ U : State, U.heap = H → s.WarmedH U.vm → mc_U z ta cA D X U ∧ va_P D vwCl (mc_w z ta cA G) U.heap := by
        intro U hUh hUw
        refine ⟨hU.at hUw (by rw [hUh]; exact Nat.le_trans hU.2.2.2.2.2.2 hS.1) (fun q h1 h2 => by rw [hUh]; exact hS.2.1 q h1 h2), by rw [hUh]; exact hP⟩
      have hcont : ∀ (H1 : Heap) (locs1 : List Loc), va_P D vwCl (mc_w z ta cA G1) H1 → va_S (fun q => z ≤ q) s.heap H1 locs1 → W p l e R s m args below meth c H1 locs1 (cells + (G1.length - G.length)) (slots + (mc_sl G1 - mc_sl G)) Q (F0 m (pc + 3) la ((v.map (mc_cv z ta)).toList ++ rest.map (mc_cv z ta))) := by
        intro H1 locs1 hP1 hS1
        have := ih2.2 p e R s m args below meth c H1 locs1 (cells + (G1.length - G.length)) (slots + (mc_sl G1 - mc_sl G)) sl0 la Q C hP1 hS1 hl (by omega) (by omega) hRc hRs hend
        have e1 : (v.toList ++ rest).map (mc_cv z ta) = (v.map (mc_cv z ta)).toList ++ rest.map (mc_cv z ta) := by
          rw [List.map_append]; cases v <;> rfl
        rw [e1] at this
        exact this
      have hW8 : ∀ (st0 : List Value), 2 * (F0 m pc la st0).monitorRoom + ((rest.map (mc_cv z ta)).map fun v => v.category).sum ≤ 8 := fun _ => lv_room (mc_cats hr4)
      have hRq : z + G.length ≤ H.size := by
        rcases Nat.eq_zero_or_pos G.length with h0 | h0
        · rw [h0]; exact Nat.le_trans hU.2.2.2.2.2.2 hS.1
        · have hi : (mc_w z ta cA G)[G.length - 1]? = some (z + (G.length - 1), mc_ce z ta cA G[G.length - 1]) := mc_w_at (List.getElem?_eq_getElem (by omega))
          have := (hP _ _ hi).lt
          dsimp only at this
          omega
      refine mc_Wsz (fun hszH => ?_)
      have hHsz : H.size = z + G.length := by omega
      rcases hcall with ⟨i, b0, hi, hst, hcl, hcle⟩ | ⟨i, b0, hi, h999, hst, hcle⟩ | ⟨i, hi, h998, hnp, hst, hcle⟩
      · -- invokevirtual
        subst hi
        cases of_decide_eq_true hln
        simp only [mc_lk, Bool.and_eq_true, Bool.not_eq_true', decide_eq_true_eq] at hk
        obtain ⟨⟨⟨⟨⟨hk1, hk2⟩, hk3⟩, hk4⟩, hk5⟩, hk6⟩ := hk
        have hM := mc_mt_at hk2 (Nat.lt_of_lt_of_le hk3 (mc_rk8 mi)) ⟨fun q => by subst q; exact absurd hk5 (by decide), fun q => by subst q; exact absurd hk5 (by decide), fun q => by subst q; exact absurd hk5 (by decide)⟩
        have hmok := hM.2
        simp only [mc_mok, Bool.and_eq_true, Bool.or_eq_true, decide_eq_true_eq] at hmok
        obtain ⟨⟨⟨⟨⟨⟨⟨⟨⟨m1, m2⟩, m3⟩, m4⟩, m5⟩, hpl⟩, m6⟩, m7⟩, m8⟩, m9⟩ := hmok
        rw [show (mc_meth cm).2.2.2.2.2.1 = false from hk4] at m2 m3 m8
        have m3 : lw_tbl[(mc_meth cm).2.2.2.2.2.2.2.2.2.2.2]? = some (Cond.selects (mc_y cm).cls (mc_y cm) (mc_y cm)) := by
          rcases m3 with (m3 | m3) | m3
          · cases m3
          · exact absurd m3 hk6
          · exact m3
        have m2 : lw_tbl[(mc_meth cm).2.2.2.2.2.2.2.2.2.2.1]? = some (Cond.instanceMethod (mc_y cm)) := of_decide_eq_true m2
        have m8 : mc_np cm + 1 ≤ mc_ml cm := m8
        have m9 : mc_ml cm ≤ 11 := m9
        have hlen : (st.take (mc_np cm)).length = mc_np cm := by
          have h2 := congrArg List.length hst
          rw [List.length_append, List.length_cons, List.length_take] at h2
          rw [List.length_take]
          omega
        subst hcle
        have hMet := mc_met (l := l) (z := z) (ta := ta) (cA := cA) (D := D) (X := X) (cm := cm) (vs := .ref b0 :: (st.take (mc_np cm)).reverse) hM (by
          intro v hv
          rcases List.mem_cons.mp hv with rfl | hv
          · rfl
          · exact hcat v (List.mem_reverse.mp hv)) (by rw [List.length_cons, List.length_reverse, hlen]; exact m8) ih1
        obtain ⟨fs, hGb⟩ : ∃ fs, G[b0]? = some (.inr (.inr (mc_own cm, fs))) := by
          unfold mc_cls at hcl
          split at hcl
          · rename_i hv2
            cases hcl
            exact ⟨_, hv2⟩
          · cases hcl
        have hrecv := va_recv hU.1 hP (mc_cl _ hk5) (mc_w_at hGb)
        dsimp only at hrecv
        rw [show mc_nm (mc_own cm) = (mc_y cm).cls from m7] at hrecv
        refine mc_call_go (va_runV (As := (st.take (mc_np cm)).reverse.map (mc_cv z ta)) (rest := rest.map (mc_cv z ta)) (C := (mc_y cm).cls) (n := mc_np cm) ⟨hx0, hb, hml, hown, hts⟩ hMet ⟨callB_of (mc_np cm) hts (mc_good cm hM) rfl rfl rfl (hts _ (mc_Ts_in m1 rfl)) (hts _ (mc_Ts_in hk1 rfl)) ⟨m4, m5, m6⟩ ⟨?_, ?_⟩, hts _ (mc_Ts_in m2 rfl), hts _ (mc_Ts_in m3 rfl)⟩ ⟨mc_Pc_blind, hrecv, fun U hUh hUw => ⟨rfl, (hpre U hUh hUw).1, (hpre U hUh hUw).2, by rw [hUh]; exact hHsz⟩⟩ rfl (by rw [List.length_map, List.length_reverse]; exact hlen) hl.2.1 ?_ (hW8 _) hd ⟨by show cells + (G1.length - G.length) ≤ _; omega, by show slots + (mc_sl G1 - mc_sl G) ≤ _; omega⟩) hS hcont
        · show mc_rk cm + 1 ≤ R.frames; omega
        · show 8 + (mc_ml cm + 11) + 30 * mc_rk cm ≤ R.locals; omega
        · show st.map (mc_cv z ta) = _
          rw [← List.map_reverse, List.reverse_reverse]
          conv => lhs; rw [hst]
          rw [List.map_append]
          rfl
      · -- invokespecial
        subst hi
        cases of_decide_eq_true hln
        simp only [mc_lk, if_neg h999, Bool.and_eq_true, Bool.not_eq_true', decide_eq_true_eq] at hk
        obtain ⟨⟨⟨⟨⟨hk1, hk2⟩, hk3⟩, hk4⟩, hk5⟩, hk6⟩ := hk
        have hM := mc_mt_at hk2 (Nat.lt_of_lt_of_le hk3 (mc_rk8 mi)) ⟨fun q => by subst q; exact absurd hk4 (by decide +kernel), fun q => by subst q; exact absurd hk4 (by decide +kernel), fun q => by subst q; exact absurd hk4 (by decide +kernel)⟩
        have hmok := hM.2
        simp only [mc_mok, Bool.and_eq_true, Bool.or_eq_true, decide_eq_true_eq] at hmok
        obtain ⟨⟨⟨⟨⟨⟨⟨⟨⟨m1, m2⟩, m3⟩, m4⟩, m5⟩, hpl⟩, m6⟩, m7⟩, m8⟩, m9⟩ := hmok
        rw [show (mc_meth cm).2.2.2.2.2.1 = false from hk5] at m2 m3 m8
        have m2 : lw_tbl[(mc_meth cm).2.2.2.2.2.2.2.2.2.2.1]? = some (Cond.instanceMethod (mc_y cm)) := of_decide_eq_true m2
        have m8 : mc_np cm + 1 ≤ mc_ml cm := m8
        have m9 : mc_ml cm ≤ 11 := m9
        have hlen : (st.take (mc_np cm)).length = mc_np cm := by
          have h2 := congrArg List.length hst
          rw [List.length_append, List.length_cons, List.length_take] at h2
          rw [List.length_take]
          omega
        subst hcle
        have hMet := mc_met (l := l) (z := z) (ta := ta) (cA := cA) (D := D) (X := X) (cm := cm) (vs := .ref b0 :: (st.take (mc_np cm)).reverse) hM (by
          intro v hv
          rcases List.mem_cons.mp hv with rfl | hv
          · rfl
          · exact hcat v (List.mem_reverse.mp hv)) (by rw [List.length_cons, List.length_reverse, hlen]; exact m8) ih1
        have hstk : st.map (mc_cv z ta) = ((st.take (mc_np cm)).reverse.map (mc_cv z ta)).reverse ++ .ref (z + b0) :: rest.map (mc_cv z ta) := by
          rw [← List.map_reverse, List.reverse_reverse]
          conv => lhs; rw [hst]
          rw [List.map_append]
          rfl
        have hgd := mc_good cm hM
        have hwd : mc_Wd cm = Cond.code (mc_y cm) (mc_by cm) (mc_ml cm) none :: mc_Ts := by unfold mc_Wd; rw [hk6]
        split at hk1
        · refine mc_call_go (va_runI (As := (st.take (mc_np cm)).reverse.map (mc_cv z ta)) (rest := rest.map (mc_cv z ta)) (n := mc_np cm) ⟨hx0, hb, hml, hown, hts⟩ hMet ⟨callB_of (mc_np cm) hts hgd hwd rfl rfl (hts _ (mc_Ts_in m1 rfl)) (hts _ (mc_Ts_in (of_decide_eq_true hk1) rfl)) ⟨m4, m5, m6⟩ ⟨?_, ?_⟩, hk4, hts _ (mc_Ts_in m2 rfl)⟩ ⟨mc_Pc_blind, fun U hUh hUw => ⟨rfl, (hpre U hUh hUw).1, (hpre U hUh hUw).2, by rw [hUh]; exact hHsz⟩⟩ rfl (by rw [List.length_map, List.length_reverse]; exact hlen) hl.2.1 hstk (hW8 _) hd ⟨by show cells + (G1.length - G.length) ≤ _; omega, by show slots + (mc_sl G1 - mc_sl G) ≤ _; omega⟩) hS hcont
          · show mc_rk cm + 1 ≤ R.frames; omega
          · show 8 + (mc_ml cm + 11) + 30 * mc_rk cm ≤ R.locals; omega
        · refine mc_call_go (va_runIN (As := (st.take (mc_np cm)).reverse.map (mc_cv z ta)) (rest := rest.map (mc_cv z ta)) (n := mc_np cm) ⟨hx0, hb, hml, hown, hts⟩ hMet ⟨va_cnB (mc_np cm) hts hgd hwd rfl rfl (hU.2.2.2.2.1 _ _ _ _ (List.mem_of_getElem? (of_decide_eq_true hk1))) (hts _ (mc_Ts_in m1 rfl)) ⟨m4, m5, m6⟩ ⟨?_, ?_⟩, hk4, hts _ (mc_Ts_in m2 rfl)⟩ ⟨mc_Pc_blind, fun U hUh hUw => ⟨rfl, (hpre U hUh hUw).1, (hpre U hUh hUw).2, by rw [hUh]; exact hHsz⟩⟩ rfl (by rw [List.length_map, List.length_reverse]; exact hlen) hl.2.1 hstk (hW8 _) hd ⟨by show cells + (G1.length - G.length) ≤ _; omega, by show slots + (mc_sl G1 - mc_sl G) ≤ _; omega⟩) hS hcont
          · show mc_rk cm + 1 ≤ R.frames; omega
          · show 8 + (mc_ml cm + 11) + 30 * mc_rk cm ≤ R.locals; omega
      · -- invokestatic
        subst hi
        cases of_decide_eq_true hln
        simp only [mc_lk, if_neg h998.1, Bool.and_eq_true, decide_eq_true_eq] at hk
        obtain ⟨⟨⟨hk1, hk2⟩, hk3⟩, hk4⟩ := hk
        have hM := mc_mt_at hk2 (Nat.lt_of_lt_of_le hk3 (mc_rk8 mi)) h998.2
        have hmok := hM.2
        simp only [mc_mok, Bool.and_eq_true, Bool.or_eq_true, decide_eq_true_eq] at hmok
        obtain ⟨⟨⟨⟨⟨⟨⟨⟨⟨m1, m2⟩, m3⟩, m4⟩, m5⟩, hpl⟩, m6⟩, m7⟩, m8⟩, m9⟩ := hmok
        rw [show (mc_meth cm).2.2.2.2.2.1 = true from hk4] at m2 m8
        have m2 : lw_tbl[(mc_meth cm).2.2.2.2.2.2.2.2.2.2.1]? = some (Cond.static (mc_y cm)) := of_decide_eq_true m2
        have m8 : mc_np cm + 0 ≤ mc_ml cm := m8
        have m9 : mc_ml cm ≤ 11 := m9
        have hlen : (st.take (mc_np cm)).length = mc_np cm := by
          rw [List.length_take]
          omega
        subst hcle
        have hMet := mc_met (l := l) (z := z) (ta := ta) (cA := cA) (D := D) (X := X) (cm := cm) (vs := (st.take (mc_np cm)).reverse) hM (fun v hv => hcat v (List.mem_reverse.mp hv)) (by rw [List.length_reverse, hlen]; exact m8) ih1
        refine mc_call_go (va_runS (As := (st.take (mc_np cm)).reverse.map (mc_cv z ta)) (rest := rest.map (mc_cv z ta)) (n := mc_np cm) ⟨hx0, hb, hml, hown, hts⟩ hMet ⟨callB_of (mc_np cm) hts (mc_good cm hM) rfl rfl rfl (hts _ (mc_Ts_in m1 rfl)) (hts _ (mc_Ts_in hk1 rfl)) ⟨m4, m5, m6⟩ ⟨?_, ?_⟩, hts _ (mc_Ts_in m2 rfl)⟩ ⟨mc_Pc_blind, fun U hUh hUw => ⟨rfl, (hpre U hUh hUw).1, (hpre U hUh hUw).2, by rw [hUh]; exact hHsz⟩⟩ rfl (by rw [List.length_map, List.length_reverse]; exact hlen) hl.2.1 ?_ (hW8 _) hd ⟨by show cells + (G1.length - G.length) ≤ _; omega, by show slots + (mc_sl G1 - mc_sl G) ≤ _; omega⟩) hS hcont
        · show mc_rk cm + 1 ≤ R.frames; omega
        · show 8 + (mc_ml cm + 11) + 30 * mc_rk cm ≤ R.locals; omega
        · show st.map (mc_cv z ta) = _
          rw [← List.map_reverse, List.reverse_reverse]
          conv => lhs; rw [hst]
          rw [List.map_append]
    · rename_i v hx
      cases h
      obtain ⟨he, hst⟩ := mc_ex_end hE hx
      refine ⟨⟨Nat.le_refl _, Nat.le_refl _⟩, ?_⟩
      intro p e R s m args below meth c H locs cells slots sl0 la Q C hP hS hl hc hs hRc hRs hend
      have := hend pc H locs cells slots la he hP hS hc hs
      have e1 : st.map (mc_cv z ta) = (r.map (mc_cv z ta)).toList := by rw [hst]; cases r <;> rfl
      rw [e1]
      exact this
    · cases h
end MCC
