/-! THE CLAIM OUT OF ONE WALK OF THE LAW'S BODY. Your part is whole_start (and what it stands on); all else here is the same for every law, but numbers. -/
def R_law : String := "NeedlePlateLaw"
def lw_P (b : Addr) (xs : List Int32) (args : Array Value) (s : State) : Prop := args = #[.ref b] ∧ s.IntsAt b xs ∧ xs.length ≤ 4096 ∧ (Jvm.Cond.and given_1 narrow_1).before args s = true
def lw_Q (_ : Array Value) (s : State) (o : Outcome) (t : State) : Prop := o = .returned (some (.int 1)) ∧ Framed s o t [] 600000 7302250
def lw_Z (below : List Frame) (a : Array Value) (s : State) : State → Prop := fun t => ∃ o, t.status = .running ∧ Ended t below o ∧ lw_Q a s o t
/-- the law's own end, with 1 on the stack, nothing written that was there before, its room as the claim has it -/
theorem lw_ret {p : Program} {l : Launch} {e : Env} {s : State} {m : MethodId} {below : List Frame} {meth : Method} {c : Code} {b : Nat} (hx : p.tables.exec = Jvm.exec) (hb : c.code = code) (hr : meth.sig.returnType = ret) (hlocks : meth.locks = false) {pc : Nat} {H : Heap} {ls : Array Slot} (hdg : decode code pc = .ok (.ireturn, 1)) : W p l e room_1 s m #[Value.ref b] below meth c H [] 600000 7302250 (lw_Z below #[Value.ref b] s) (F0 m pc ls [.int 1]) := by
  intro T hT X
  obtain ⟨fs, hret, hrun, hended, hW, hframe⟩ := X.leave (v := some (.int 1)) (hlocks := hlocks) (fun h => by rw [hr] at h; cases h)
  have hmeth' : T.vm.method? m = some meth := X.method'
  refine ⟨T.setFrames fs, ?_, .returned (some (.int 1)), hrun, hended, rfl, ⟨_, rfl⟩, hW, hframe⟩
  jvm_step X.here [X.here.top, hx, hb, hdg, hmeth', hr, ret, narrow_b1]
  (try refine ⟨rfl, ?_⟩); (try refine ⟨rfl, ?_⟩)
  first | (intro acts; rw [hret _ acts rfl rfl rfl]) | rw [hret _ _ rfl rfl rfl]
  exact Steps.refl _
/-- what holds at the law's entry: the machine, the code, the tables' words (any of lw_tbl by 'hts w (by decide +kernel)'), the script of L ints xs at the cell b, what the Statement gives of the start (any of its parts by flat_of_before) -/
def lw_At (p : Program) (s : State) (m : MethodId) (meth : Method) (c : Code) (b L : Nat) (xs : Nat → Int32) : Prop :=
  p.tables.exec = Jvm.exec ∧ c.code = code ∧ meth.sig.returnType = ret ∧ c.maxLocals = 4 ∧ s.vm.findClass R_law = some m.cls ∧ (∀ w ∈ lw_tbl, w.before #[Value.ref b] s = true) ∧ va_X b L xs s s.heap ∧ b < s.heap.size ∧ meth.locks = false ∧ (Jvm.Cond.and given_1 narrow_1).before #[Value.ref b] s = true
/-- the static tables, and the script -/
def mc_t0 (j : Nat) : Int32 := match j with
  | 0 => 1
  | 1 => 1
  | 2 => 2
  | 3 => 0
  | _ => 1
def mc_t1 (j : Nat) : Int32 := match j with
  | 0 => 1
  | 1 => 10
  | 2 => 1
  | 3 => 1
  | _ => 110
def mc_t2 (j : Nat) : Int32 := match j with
  | 0 => 1000
  | 1 => 1000
  | 2 => 12000
  | 3 => 100000
  | _ => 1000
def mc_X0 (L : Nat) (xs : Nat → Int32) : mc_X := fun i => match i with
  | 0 => (5, mc_t0)
  | 1 => (5, mc_t1)
  | 2 => (5, mc_t2)
  | _ => (L, xs)
/-- what the small machine owes -/
def mc_Owed : Prop := ∀ (L : Nat) (xs : Nat → Int32), L ≤ 4096 → ∃ Gf : mc_H, mc_ev (mc_X0 L xs) 180 0 [.float 3, .null, .null, .null] [] [] = some (some (.int 1), Gf) ∧ Gf.length ≤ 600000 ∧ mc_sl Gf ≤ 7302250
set_option maxHeartbeats 4000000 in
set_option maxRecDepth 100000 in
theorem mc_start (hO : mc_Owed) {p : Program} {e : Env} {s : State} {m : MethodId} {below : List Frame} {meth : Method} {c : Code} (l : Launch) {b L : Nat} {xs : Nat → Int32} (hL : L ≤ 4096) (C0 : lw_At p s m meth c b L xs) : W p l e room_1 s m #[Value.ref b] below meth c s.heap [] 0 0 (lw_Z below #[Value.ref b] s) (entryFrame m ([Value.ref b] : List Value).toArray 4) := by
  obtain ⟨hx, hb, hr, hml, hown, hts, hX, hbl, hlocks, hgv⟩ := id C0
  have hA0 : ∀ a : Nat, a < s.heap.size → ¬ (fun q => s.heap.size ≤ q) a := fun a h => Nat.not_le.mpr h
  have hfl := flat_of_before _ hgv
  obtain ⟨t0, ht0, hT0⟩ := va_Tof (tm := .static "NeedlePlate" "WORTHS" "[I") (ty := .int) (N := 5) (f := fun j => .int (mc_t0 j)) (A := fun q => s.heap.size ≤ q) (by decide) (hfl _ (by decide +kernel)) (va_eqt (hfl (.eq (.length (.static "NeedlePlate" "WORTHS" "[I")) (.int 5)) (by decide +kernel))) (fun j hj => by
    rcases (show j = 0 ∨ j = 1 ∨ j = 2 ∨ j = 3 ∨ j = 4 by omega) with rfl | rfl | rfl | rfl | rfl
    · exact va_eqt (hfl (.eq (.elem (.static "NeedlePlate" "WORTHS" "[I") (.int 0)) (.int 1)) (by decide +kernel))
    · exact va_eqt (hfl (.eq (.elem (.static "NeedlePlate" "WORTHS" "[I") (.int 1)) (.int 1)) (by decide +kernel))
    · exact va_eqt (hfl (.eq (.elem (.static "NeedlePlate" "WORTHS" "[I") (.int 2)) (.int 2)) (by decide +kernel))
    · exact va_eqt (hfl (.eq (.elem (.static "NeedlePlate" "WORTHS" "[I") (.int 3)) (.int 0)) (by decide +kernel))
    · exact va_eqt (hfl (.eq (.elem (.static "NeedlePlate" "WORTHS" "[I") (.int 4)) (.int 1)) (by decide +kernel))) hA0
  have hZ0 := va_Zref (hts (.laysStatic "NeedlePlate" "WORTHS" "[I") (List.mem_of_getElem? (i := 403) (by decide +kernel))) (hts (.initialized "NeedlePlate") (List.mem_of_getElem? (i := 44) (by decide +kernel))) ht0 hA0
  obtain ⟨t1, ht1, hT1⟩ := va_Tof (tm := .static "NeedlePlate" "POINT_TRACES" "[I") (ty := .int) (N := 5) (f := fun j => .int (mc_t1 j)) (A := fun q => s.heap.size ≤ q) (by decide) (hfl _ (by decide +kernel)) (va_eqt (hfl (.eq (.length (.static "NeedlePlate" "POINT_TRACES" "[I")) (.int 5)) (by decide +kernel))) (fun j hj => by
    rcases (show j = 0 ∨ j = 1 ∨ j = 2 ∨ j = 3 ∨ j = 4 by omega) with rfl | rfl | rfl | rfl | rfl
    · exact va_eqt (hfl (.eq (.elem (.static "NeedlePlate" "POINT_TRACES" "[I") (.int 0)) (.int 1)) (by decide +kernel))
    · exact va_eqt (hfl (.eq (.elem (.static "NeedlePlate" "POINT_TRACES" "[I") (.int 1)) (.int 10)) (by decide +kernel))
    · exact va_eqt (hfl (.eq (.elem (.static "NeedlePlate" "POINT_TRACES" "[I") (.int 2)) (.int 1)) (by decide +kernel))
    · exact va_eqt (hfl (.eq (.elem (.static "NeedlePlate" "POINT_TRACES" "[I") (.int 3)) (.int 1)) (by decide +kernel))
    · exact va_eqt (hfl (.eq (.elem (.static "NeedlePlate" "POINT_TRACES" "[I") (.int 4)) (.int 110)) (by decide +kernel))) hA0
  have hZ1 := va_Zref (hts (.laysStatic "NeedlePlate" "POINT_TRACES" "[I") (List.mem_of_getElem? (i := 479) (by decide +kernel))) (hts (.initialized "NeedlePlate") (List.mem_of_getElem? (i := 44) (by decide +kernel))) ht1 hA0
  obtain ⟨t2, ht2, hT2⟩ := va_Tof (tm := .static "NeedlePlate" "WORTH_TRACES" "[I") (ty := .int) (N := 5) (f := fun j => .int (mc_t2 j)) (A := fun q => s.heap.size ≤ q) (by decide) (hfl _ (by decide +kernel)) (va_eqt (hfl (.eq (.length (.static "NeedlePlate" "WORTH_TRACES" "[I")) (.int 5)) (by decide +kernel))) (fun j hj => by
    rcases (show j = 0 ∨ j = 1 ∨ j = 2 ∨ j = 3 ∨ j = 4 by omega) with rfl | rfl | rfl | rfl | rfl
    · exact va_eqt (hfl (.eq (.elem (.static "NeedlePlate" "WORTH_TRACES" "[I") (.int 0)) (.int 1000)) (by decide +kernel))
    · exact va_eqt (hfl (.eq (.elem (.static "NeedlePlate" "WORTH_TRACES" "[I") (.int 1)) (.int 1000)) (by decide +kernel))
    · exact va_eqt (hfl (.eq (.elem (.static "NeedlePlate" "WORTH_TRACES" "[I") (.int 2)) (.int 12000)) (by decide +kernel))
    · exact va_eqt (hfl (.eq (.elem (.static "NeedlePlate" "WORTH_TRACES" "[I") (.int 3)) (.int 100000)) (by decide +kernel))
    · exact va_eqt (hfl (.eq (.elem (.static "NeedlePlate" "WORTH_TRACES" "[I") (.int 4)) (.int 1000)) (by decide +kernel))) hA0
  have hZ2 := va_Zref (hts (.laysStatic "NeedlePlate" "WORTH_TRACES" "[I") (List.mem_of_getElem? (i := 486) (by decide +kernel))) (hts (.initialized "NeedlePlate") (List.mem_of_getElem? (i := 44) (by decide +kernel))) ht2 hA0
  have hT3 : va_T .int b L (fun j => .int (xs j)) (fun q => s.heap.size ≤ q) s s.heap := by
    obtain ⟨scr, h1, h2, h3, h4, h5⟩ := hX
    exact ⟨scr, h1, h2, h3, Nat.le_of_eq h4.symm, by rw [h4], h5, hA0 b hbl⟩
  obtain ⟨c0, iS0, hKn0⟩ := u_known (C := RX0) (T := TX0) (N := 10) (n := 10) hts iX0 (hts (.instantiable RX0 10) (List.mem_of_getElem? (i := 72) (by decide +kernel)))
  obtain ⟨c1, iS1, hKn1⟩ := u_known (C := RX1) (T := TX1) (N := 3) (n := 3) hts iX1 (hts (.instantiable RX1 3) (List.mem_of_getElem? (i := 178) (by decide +kernel)))
  obtain ⟨c2, iS2, hKn2⟩ := u_known (C := RX2) (T := TX2) (N := 6) (n := 6) hts iX2 (hts (.instantiable RX2 6) (List.mem_of_getElem? (i := 198) (by decide +kernel)))
  obtain ⟨c3, iS3, hKn3⟩ := u_known (C := RX3) (T := TX3) (N := 2) (n := 2) hts iX3 (hts (.instantiable RX3 2) (List.mem_of_getElem? (i := 225) (by decide +kernel)))
  obtain ⟨c4, iS4, hKn4⟩ := u_known (C := RX4) (T := TX4) (N := 2) (n := 2) hts iX4 (hts (.instantiable RX4 2) (List.mem_of_getElem? (i := 66) (by decide +kernel)))
  obtain ⟨c5, iS5, hKn5⟩ := u_known (C := RX5) (T := TX5) (N := 5) (n := 5) hts iX5 (hts (.instantiable RX5 5) (List.mem_of_getElem? (i := 133) (by decide +kernel)))
  obtain ⟨c6, iS6, hKn6⟩ := u_known (C := RX6) (T := TX6) (N := 4) (n := 4) hts iX6 (hts (.instantiable RX6 4) (List.mem_of_getElem? (i := 239) (by decide +kernel)))
  obtain ⟨c7, iS7, hKn7⟩ := u_known (C := RX7) (T := TX7) (N := 7) (n := 7) hts iX7 (hts (.instantiable RX7 7) (List.mem_of_getElem? (i := 58) (by decide +kernel)))
  obtain ⟨c8, iS8, hKn8⟩ := u_known (C := RX8) (T := TX8) (N := 20) (n := 20) hts iX8 (hts (.instantiable RX8 20) (List.mem_of_getElem? (i := 748) (by decide +kernel)))
  obtain ⟨dC, dI, hKc⟩ : ∃ (dC : Nat → ClassId) (dI : Nat → Nat → Nat), ∀ (k : Nat) (q : vw_C), vwCl[k]? = some q → u_Kn s q.1 q.2.1 q.2.2 (dC k) (dI k) := by
    refine ⟨fun k => if k = 0 then c0 else if k = 1 then c1 else if k = 2 then c2 else if k = 3 then c3 else if k = 4 then c4 else if k = 5 then c5 else if k = 6 then c6 else if k = 7 then c7 else c8, fun k => if k = 0 then iS0 else if k = 1 then iS1 else if k = 2 then iS2 else if k = 3 then iS3 else if k = 4 then iS4 else if k = 5 then iS5 else if k = 6 then iS6 else if k = 7 then iS7 else iS8, ?_⟩
    intro k q hq
    match k, hq with
    | 0, hq => cases hq; exact hKn0
    | 1, hq => cases hq; exact hKn1
    | 2, hq => cases hq; exact hKn2
    | 3, hq => cases hq; exact hKn3
    | 4, hq => cases hq; exact hKn4
    | 5, hq => cases hq; exact hKn5
    | 6, hq => cases hq; exact hKn6
    | 7, hq => cases hq; exact hKn7
    | 8, hq => cases hq; exact hKn8
    | k + 9, hq => simp [vwCl] at hq
  obtain ⟨cI, kI, pI, aI1, aI2, aI3⟩ := Cond.arrayClass_spec (hts (.arrayClass .int) (List.mem_of_getElem? (i := 131) (by decide +kernel)))
  obtain ⟨cZ, kZ, pZ, aZ1, aZ2, aZ3⟩ := Cond.arrayClass_spec (hts (.arrayClass .boolean) (List.mem_of_getElem? (i := 814) (by decide +kernel)))
  have hO5 : va_AO RX5 s := va_AO.of (hts (.arrayOver (.object RX5)) (List.mem_of_getElem? (i := 184) (by decide +kernel)))
  have hO6 : va_AO RX6 s := va_AO.of (hts (.arrayOver (.object RX6)) (List.mem_of_getElem? (i := 238) (by decide +kernel)))
  obtain ⟨p5, c5a, k5, b51, b52, b53, b54, b55⟩ := Cond.arrayOver_spec hO5
  obtain ⟨p6, c6a, k6, b61, b62, b63, b64, b65⟩ := Cond.arrayOver_spec hO6
  let cA : Nat → ClassId := fun t => if t = 0 then cI else if t = 1 then cZ else if t = 2 then c5a else c6a
  let ta : Nat → Nat := fun i => if i = 0 then t0 else if i = 1 then t1 else if i = 2 then t2 else b
  have hK : va_K (dC, dI) vwCl (mc_tys cA) s := by
    refine ⟨hKc, fun k q h => ?_⟩
    match k, h with
    | 0, h => cases h; exact ⟨fun n z => ⟨fun k h => (by cases h), kI, aI2, pI, aI3⟩, aI1⟩
    | 1, h => cases h; exact ⟨fun n z => ⟨fun k h => (by cases h), kZ, aZ2, pZ, aZ3⟩, aZ1⟩
    | 2, h => cases h; exact ⟨fun n z => ⟨fun k h => (by cases h), k5, b53, p5, b54⟩, k5, p5, b53, b54, b51, b55⟩
    | 3, h => cases h; exact ⟨fun n z => ⟨fun k h => (by cases h), k6, b63, p6, b64⟩, k6, p6, b63, b64, b61, b65⟩
    | k + 4, h => simp [mc_tys] at h
  have hU : mc_U s.heap.size ta cA (dC, dI) (mc_X0 L xs) s := by
    refine ⟨hK, fun i hi => ?_, fun i hi => ?_, fun a i b n d h hm => va_Nw.of rfl (hts _ hm), fun a i x h hm => va_Nw.of rfl (hts _ hm), ⟨hO5, hO6⟩, Nat.le_refl _⟩
    · rcases (show i = 0 ∨ i = 1 ∨ i = 2 by omega) with rfl | rfl | rfl
      · exact hZ0
      · exact hZ1
      · exact hZ2
    · rcases (show i = 0 ∨ i = 1 ∨ i = 2 ∨ i = 3 by omega) with rfl | rfl | rfl | rfl
      · exact hT0
      · exact hT1
      · exact hT2
      · exact hT3
  obtain ⟨Gf, hev, hGc, hGs⟩ := hO L xs hL
  obtain ⟨n, hn⟩ := mc_ev_iff.mp hev
  have hsnd := mc_sound (z := s.heap.size) (ta := ta) (cA := cA) (D := (dC, dI)) (l := l) n _ _ _ _ _ _ _ hn
  rw [lg_entry_eq]
  have hP0 : va_P (dC, dI) vwCl (mc_w s.heap.size ta cA []) s.heap := fun k q h => by simp [mc_w] at h
  have hl0 : mc_L s.heap.size ta ((lg_sl ([Value.ref b] : List Value) ++ List.replicate (4 - (lg_sl ([Value.ref b] : List Value)).length) Slot.unset).toArray) (mc_ml 180) [.float 3, .null, .null, .null] := mc_L.entry (z := s.heap.size) (ta := ta) [.float 3] (n := 4) (by intro v hv; rw [List.mem_singleton.mp hv]; rfl) (by decide)
  refine hsnd.2 p e room_1 s m _ below meth c s.heap [] 0 0 0 _ _ ⟨hx, hb, hml, hown, fun w hw => hts w (List.mem_filter.mp hw).1, hU, ?_, by decide +kernel, by decide +kernel⟩ hP0 va_S.rf hl0 rfl rfl ?_ ?_ ?_
  · exact fun q => absurd q (by decide +kernel)
  · show s.heap.size + Gf.length ≤ s.heap.size + 600000; omega
  · show mc_sl Gf ≤ 0 + 7302250; omega
  · intro pc' H' locs' cells' slots' la' hend hP' hS' hc' hs'
    refine va_forget hS'.2.2 ?_
    refine W.widen (k := 600000) (n := 7302250) (by omega) (by omega) ?_
    exact lw_ret hx hb hr hlocks hend.1
