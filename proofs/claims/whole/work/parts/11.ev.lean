/-! what a run comes to, an instruction at a time: equations without fuel -/
section EV
variable {X : mc_X} {k pc a b w : Nat} {cc : Int} {ls st : List Value} {G : mc_H}
theorem ev_next {E : mc_E} (h : mc_code k pc = some E) {pc' : Nat} {ls' st' : List Value} {G' : mc_H} (hx : mc_ex X k pc E ls st G = some (.inl (pc', ls', st', G'))) : mc_ev X k pc ls st G = mc_ev X k pc' ls' st' G' := by
  rw [mc_ev_eq]; unfold mc_F mc_st; rw [h]; dsimp only; rw [hx]
theorem ev_iconst {n : Int} (h : mc_code k pc = some (.iconst n, 1, a, b, w, cc)) {v : Int32} (hv : Int32.ofInt n = v) : mc_ev X k pc ls st G = mc_ev X k (pc + 1) ls (.int v :: st) G := by subst hv; exact ev_next h rfl
theorem ev_bipush {n : Int} (h : mc_code k pc = some (.bipush n, 2, a, b, w, cc)) {v : Int32} (hv : (Int8.ofInt n).toInt32 = v) : mc_ev X k pc ls st G = mc_ev X k (pc + 2) ls (.int v :: st) G := by subst hv; exact ev_next h rfl
theorem ev_sipush {n : Int} (h : mc_code k pc = some (.sipush n, 3, a, b, w, cc)) {v : Int32} (hv : (Int16.ofInt n).toInt32 = v) : mc_ev X k pc ls st G = mc_ev X k (pc + 3) ls (.int v :: st) G := by subst hv; exact ev_next h rfl
theorem ev_lconst {n : Fin 2} (h : mc_code k pc = some (.lconst n, 1, a, b, w, cc)) {v : Int64} (hv : Int64.ofNat (n : Nat) = v) : mc_ev X k pc ls st G = mc_ev X k (pc + 1) ls (.long v :: st) G := by subst hv; exact ev_next h rfl
theorem ev_ldc {i : Nat} (h : mc_code k pc = some (.ldc i, 2, a, b, w, cc)) {v : Int32} (hv : Int32.ofInt cc = v) : mc_ev X k pc ls st G = mc_ev X k (pc + 2) ls (.int v :: st) G := by subst hv; exact ev_next h rfl
theorem ev_ldc_w {i : Nat} (h : mc_code k pc = some (.ldc_w i, 3, a, b, w, cc)) {v : Int32} (hv : Int32.ofInt cc = v) : mc_ev X k pc ls st G = mc_ev X k (pc + 3) ls (.int v :: st) G := by subst hv; exact ev_next h rfl
theorem ev_ldc2_w {i : Nat} (h : mc_code k pc = some (.ldc2_w i, 3, a, b, w, cc)) {v : Int64} (hv : Int64.ofInt cc = v) : mc_ev X k pc ls st G = mc_ev X k (pc + 3) ls (.long v :: st) G := by subst hv; exact ev_next h rfl
theorem ev_iload_n {j : Fin 4} (h : mc_code k pc = some (.iload_n j, 1, a, b, w, cc)) {x : Int32} (hl : ls[(j : Nat)]? = some (.int x)) : mc_ev X k pc ls st G = mc_ev X k (pc + 1) ls (.int x :: st) G := ev_next h (by unfold mc_ex; dsimp only; rw [hl])
theorem ev_iload {j : Nat} (h : mc_code k pc = some (.iload j, 2, a, b, w, cc)) {x : Int32} (hl : ls[j]? = some (.int x)) : mc_ev X k pc ls st G = mc_ev X k (pc + 2) ls (.int x :: st) G := ev_next h (by unfold mc_ex; dsimp only; rw [hl])
theorem ev_aload_n {j : Fin 4} (h : mc_code k pc = some (.aload_n j, 1, a, b, w, cc)) {x : Nat} (hl : ls[(j : Nat)]? = some (.ref x)) : mc_ev X k pc ls st G = mc_ev X k (pc + 1) ls (.ref x :: st) G := ev_next h (by unfold mc_ex; dsimp only; rw [hl])
theorem ev_aload {j : Nat} (h : mc_code k pc = some (.aload j, 2, a, b, w, cc)) {x : Nat} (hl : ls[j]? = some (.ref x)) : mc_ev X k pc ls st G = mc_ev X k (pc + 2) ls (.ref x :: st) G := ev_next h (by unfold mc_ex; dsimp only; rw [hl])
theorem ev_aload_nF {j : Fin 4} (h : mc_code k pc = some (.aload_n j, 1, a, b, w, cc)) {x : UInt32} (hl : ls[(j : Nat)]? = some (.float x)) : mc_ev X k pc ls st G = mc_ev X k (pc + 1) ls (.float x :: st) G := ev_next h (by unfold mc_ex; dsimp only; rw [hl])
theorem ev_istore_n {j : Fin 4} (h : mc_code k pc = some (.istore_n j, 1, a, b, w, cc)) {x : Int32} (hl : (j : Nat) < ls.length) : mc_ev X k pc ls (.int x :: st) G = mc_ev X k (pc + 1) (ls.set j (.int x)) st G := ev_next h (by unfold mc_ex; dsimp only; rw [if_pos hl])
theorem ev_istore {j : Nat} (h : mc_code k pc = some (.istore j, 2, a, b, w, cc)) {x : Int32} (hl : j < ls.length) : mc_ev X k pc ls (.int x :: st) G = mc_ev X k (pc + 2) (ls.set j (.int x)) st G := ev_next h (by unfold mc_ex; dsimp only; rw [if_pos hl])
theorem ev_astore_n {j : Fin 4} (h : mc_code k pc = some (.astore_n j, 1, a, b, w, cc)) {x : Nat} (hl : (j : Nat) < ls.length) : mc_ev X k pc ls (.ref x :: st) G = mc_ev X k (pc + 1) (ls.set j (.ref x)) st G := ev_next h (by unfold mc_ex; dsimp only; rw [if_pos hl])
theorem ev_astore {j : Nat} (h : mc_code k pc = some (.astore j, 2, a, b, w, cc)) {x : Nat} (hl : j < ls.length) : mc_ev X k pc ls (.ref x :: st) G = mc_ev X k (pc + 2) (ls.set j (.ref x)) st G := ev_next h (by unfold mc_ex; dsimp only; rw [if_pos hl])
theorem ev_iinc {j : Nat} {n : Int} (h : mc_code k pc = some (.iinc j n, 3, a, b, w, cc)) {x v : Int32} (hl : ls[j]? = some (.int x)) (hv : Int32.ofInt n = v) : mc_ev X k pc ls st G = mc_ev X k (pc + 3) (ls.set j (.int (x + v))) st G := by subst hv; exact ev_next h (by unfold mc_ex; dsimp only; rw [hl])
theorem ev_iadd (h : mc_code k pc = some (.iadd, 1, a, b, w, cc)) {x y : Int32} : mc_ev X k pc ls (.int y :: .int x :: st) G = mc_ev X k (pc + 1) ls (.int (x + y) :: st) G := ev_next h rfl
theorem ev_isub (h : mc_code k pc = some (.isub, 1, a, b, w, cc)) {x y : Int32} : mc_ev X k pc ls (.int y :: .int x :: st) G = mc_ev X k (pc + 1) ls (.int (x - y) :: st) G := ev_next h rfl
theorem ev_imul (h : mc_code k pc = some (.imul, 1, a, b, w, cc)) {x y : Int32} : mc_ev X k pc ls (.int y :: .int x :: st) G = mc_ev X k (pc + 1) ls (.int (x * y) :: st) G := ev_next h rfl
theorem ev_iand (h : mc_code k pc = some (.iand, 1, a, b, w, cc)) {x y : Int32} : mc_ev X k pc ls (.int y :: .int x :: st) G = mc_ev X k (pc + 1) ls (.int (x &&& y) :: st) G := ev_next h rfl
theorem ev_ior (h : mc_code k pc = some (.ior, 1, a, b, w, cc)) {x y : Int32} : mc_ev X k pc ls (.int y :: .int x :: st) G = mc_ev X k (pc + 1) ls (.int (x ||| y) :: st) G := ev_next h rfl
theorem ev_ixor (h : mc_code k pc = some (.ixor, 1, a, b, w, cc)) {x y : Int32} : mc_ev X k pc ls (.int y :: .int x :: st) G = mc_ev X k (pc + 1) ls (.int (x ^^^ y) :: st) G := ev_next h rfl
theorem ev_idiv (h : mc_code k pc = some (.idiv, 1, a, b, w, cc)) {x y : Int32} : mc_ev X k pc ls (.int y :: .int x :: st) G = if y = 0 then none else mc_ev X k (pc + 1) ls (.int (x / y) :: st) G := by
  by_cases hy : y = 0
  · rw [if_pos hy, mc_ev_eq]; unfold mc_F mc_st; rw [h]; unfold mc_ex; dsimp only; rw [if_pos hy]
  · rw [if_neg hy]; exact ev_next h (by unfold mc_ex; dsimp only; rw [if_neg hy])
theorem ev_irem (h : mc_code k pc = some (.irem, 1, a, b, w, cc)) {x y : Int32} : mc_ev X k pc ls (.int y :: .int x :: st) G = if y = 0 then none else mc_ev X k (pc + 1) ls (.int (x - x / y * y) :: st) G := by
  by_cases hy : y = 0
  · rw [if_pos hy, mc_ev_eq]; unfold mc_F mc_st; rw [h]; unfold mc_ex; dsimp only; rw [if_pos hy]
  · rw [if_neg hy]; exact ev_next h (by unfold mc_ex; dsimp only; rw [if_neg hy])
theorem ev_ineg (h : mc_code k pc = some (.ineg, 1, a, b, w, cc)) {x : Int32} : mc_ev X k pc ls (.int x :: st) G = mc_ev X k (pc + 1) ls (.int (-x) :: st) G := ev_next h rfl
theorem ev_ishl (h : mc_code k pc = some (.ishl, 1, a, b, w, cc)) {x y : Int32} : mc_ev X k pc ls (.int y :: .int x :: st) G = mc_ev X k (pc + 1) ls (.int (x <<< (y &&& 31)) :: st) G := ev_next h rfl
theorem ev_ishr (h : mc_code k pc = some (.ishr, 1, a, b, w, cc)) {x y : Int32} : mc_ev X k pc ls (.int y :: .int x :: st) G = mc_ev X k (pc + 1) ls (.int (x >>> (y &&& 31)) :: st) G := ev_next h rfl
theorem ev_iushr (h : mc_code k pc = some (.iushr, 1, a, b, w, cc)) {x y : Int32} : mc_ev X k pc ls (.int y :: .int x :: st) G = mc_ev X k (pc + 1) ls (.int ((x.toUInt32 >>> (y.toUInt32 &&& Int32.toUInt32 31)).toInt32) :: st) G := ev_next h rfl
theorem ev_i2l (h : mc_code k pc = some (.i2l, 1, a, b, w, cc)) {x : Int32} : mc_ev X k pc ls (.int x :: st) G = mc_ev X k (pc + 1) ls (.long x.toInt64 :: st) G := ev_next h rfl
theorem ev_i2b (h : mc_code k pc = some (.i2b, 1, a, b, w, cc)) {x : Int32} : mc_ev X k pc ls (.int x :: st) G = mc_ev X k (pc + 1) ls (.int x.toInt8.toInt32 :: st) G := ev_next h rfl
theorem ev_i2s (h : mc_code k pc = some (.i2s, 1, a, b, w, cc)) {x : Int32} : mc_ev X k pc ls (.int x :: st) G = mc_ev X k (pc + 1) ls (.int x.toInt16.toInt32 :: st) G := ev_next h rfl
theorem ev_ladd (h : mc_code k pc = some (.ladd, 1, a, b, w, cc)) {x y : Int64} : mc_ev X k pc ls (.long y :: .long x :: st) G = mc_ev X k (pc + 1) ls (.long (x + y) :: st) G := ev_next h rfl
theorem ev_lcmp (h : mc_code k pc = some (.lcmp, 1, a, b, w, cc)) {x y : Int64} : mc_ev X k pc ls (.long y :: .long x :: st) G = mc_ev X k (pc + 1) ls (.int (lg_cmp x y) :: st) G := ev_next h rfl
theorem ev_dup (h : mc_code k pc = some (.dup, 1, a, b, w, cc)) {x : Nat} : mc_ev X k pc ls (.ref x :: st) G = mc_ev X k (pc + 1) ls (.ref x :: .ref x :: st) G := ev_next h rfl
theorem ev_br {E : mc_E} (h : mc_code k pc = some E) {c : Prop} [Decidable c] {p1 p2 : Nat} {st' : List Value} (hx : mc_ex X k pc E ls st G = if c then some (.inl (p1, ls, st', G)) else some (.inl (p2, ls, st', G))) : mc_ev X k pc ls st G = if c then mc_ev X k p1 ls st' G else mc_ev X k p2 ls st' G := by
  by_cases hc : c
  · rw [if_pos hc]; rw [if_pos hc] at hx; exact ev_next h hx
  · rw [if_neg hc]; rw [if_neg hc] at hx; exact ev_next h hx
theorem ev_goto {off : Int} (h : mc_code k pc = some (.goto off, 3, a, b, w, cc)) {tgt : Nat} (ht : mc_tgt pc off = tgt) : mc_ev X k pc ls st G = mc_ev X k tgt ls st G := by subst ht; exact ev_next h rfl
theorem ev_opt {α : Type} {E : mc_E} (h : mc_code k pc = some E) (o : Option α) {pc' : Nat} (ls' : α → List Value) (st' : α → List Value) (G' : α → mc_H) (hs : ∀ q, o = some q → mc_ex X k pc E ls st G = some (.inl (pc', ls' q, st' q, G' q))) (hn : o = none → mc_ex X k pc E ls st G = none) : mc_ev X k pc ls st G = o.bind (fun q => mc_ev X k pc' (ls' q) (st' q) (G' q)) := by
  cases o with
  | none => rw [mc_ev_eq]; unfold mc_F mc_st; rw [h]; dsimp only; rw [hn rfl]; rfl
  | some q => exact ev_next h (hs q rfl)
theorem ev_getfield {i : Nat} (h : mc_code k pc = some (.getfield i, 3, a, b, w, cc)) {r : Nat} : mc_ev X k pc ls (.ref r :: st) G = (mc_getf G r a b).bind (fun v => mc_ev X k (pc + 3) ls (v :: st) G) := ev_opt h (mc_getf G r a b) (fun _ => ls) (fun v => v :: st) (fun _ => G) (fun q hq => by unfold mc_ex; dsimp only; rw [hq]) (fun hq => by unfold mc_ex; dsimp only; rw [hq])
theorem ev_putfield {i : Nat} (h : mc_code k pc = some (.putfield i, 3, a, b, w, cc)) {r : Nat} {v : Value} : mc_ev X k pc ls (v :: .ref r :: st) G = (mc_setf G r a b v).bind (fun G' => mc_ev X k (pc + 3) ls st G') := ev_opt h (mc_setf G r a b v) (fun _ => ls) (fun _ => st) (fun G' => G') (fun q hq => by unfold mc_ex; dsimp only; rw [hq]) (fun hq => by unfold mc_ex; dsimp only; rw [hq])
theorem ev_getstatic {i : Nat} (h : mc_code k pc = some (.getstatic i, 3, a, b, w, cc)) {u : UInt32} (hu : UInt32.ofNat a = u) : mc_ev X k pc ls st G = mc_ev X k (pc + 3) ls (.float u :: st) G := by subst hu; exact ev_next h rfl
theorem ev_iaload (h : mc_code k pc = some (.iaload, 1, a, b, w, cc)) {i : Int32} {r : Value} : mc_ev X k pc ls (.int i :: r :: st) G = (mc_getA X G 0 r i).bind (fun x => mc_ev X k (pc + 1) ls (.int x :: st) G) := ev_opt h (mc_getA X G 0 r i) (fun _ => ls) (fun v => .int v :: st) (fun _ => G) (fun q hq => by unfold mc_ex; dsimp only; rw [hq]) (fun hq => by unfold mc_ex; dsimp only; rw [hq])
theorem ev_baload (h : mc_code k pc = some (.baload, 1, a, b, w, cc)) {i : Int32} {r : Value} : mc_ev X k pc ls (.int i :: r :: st) G = (mc_getA X G 1 r i).bind (fun x => mc_ev X k (pc + 1) ls (.int x :: st) G) := ev_opt h (mc_getA X G 1 r i) (fun _ => ls) (fun v => .int v :: st) (fun _ => G) (fun q hq => by unfold mc_ex; dsimp only; rw [hq]) (fun hq => by unfold mc_ex; dsimp only; rw [hq])
theorem ev_iastore (h : mc_code k pc = some (.iastore, 1, a, b, w, cc)) {i x : Int32} {r : Nat} : mc_ev X k pc ls (.int x :: .int i :: .ref r :: st) G = (mc_setA G 0 r i x).bind (fun G' => mc_ev X k (pc + 1) ls st G') := ev_opt h (mc_setA G 0 r i x) (fun _ => ls) (fun _ => st) (fun G' => G') (fun q hq => by unfold mc_ex; dsimp only; rw [hq]) (fun hq => by unfold mc_ex; dsimp only; rw [hq])
theorem ev_bastore (h : mc_code k pc = some (.bastore, 1, a, b, w, cc)) {i x : Int32} {r : Nat} : mc_ev X k pc ls (.int x :: .int i :: .ref r :: st) G = (mc_setA G 1 r i (vp_nar .boolean x)).bind (fun G' => mc_ev X k (pc + 1) ls st G') := ev_opt h (mc_setA G 1 r i (vp_nar .boolean x)) (fun _ => ls) (fun _ => st) (fun G' => G') (fun q hq => by unfold mc_ex; dsimp only; rw [hq]) (fun hq => by unfold mc_ex; dsimp only; rw [hq])
theorem ev_arraylength (h : mc_code k pc = some (.arraylength, 1, a, b, w, cc)) {r : Value} : mc_ev X k pc ls (r :: st) G = (mc_len X G r).bind (fun x => mc_ev X k (pc + 1) ls (.int x :: st) G) := ev_opt h (mc_len X G r) (fun _ => ls) (fun v => .int v :: st) (fun _ => G) (fun q hq => by unfold mc_ex; dsimp only; rw [hq]) (fun hq => by unfold mc_ex; dsimp only; rw [hq])
theorem ev_aaload (h : mc_code k pc = some (.aaload, 1, a, b, w, cc)) {i : Int32} {r : Nat} : mc_ev X k pc ls (.int i :: .ref r :: st) G = (mc_getQ G r i).bind (fun x => mc_ev X k (pc + 1) ls (.ref x :: st) G) := ev_opt h (mc_getQ G r i) (fun _ => ls) (fun v => .ref v :: st) (fun _ => G) (fun q hq => by unfold mc_ex; dsimp only; rw [hq]) (fun hq => by unfold mc_ex; dsimp only; rw [hq])
theorem ev_aastore (h : mc_code k pc = some (.aastore, 1, a, b, w, cc)) {i : Int32} {r v : Nat} : mc_ev X k pc ls (.ref v :: .int i :: .ref r :: st) G = (mc_setQ G r i v).bind (fun G' => mc_ev X k (pc + 1) ls st G') := ev_opt h (mc_setQ G r i v) (fun _ => ls) (fun _ => st) (fun G' => G') (fun q hq => by unfold mc_ex; dsimp only; rw [hq]) (fun hq => by unfold mc_ex; dsimp only; rw [hq])
theorem ev_new {i : Nat} (h : mc_code k pc = some (.new i, 3, a, b, w, cc)) : mc_ev X k pc ls st G = mc_ev X k (pc + 3) ls (.ref G.length :: st) (G ++ [.inr (.inr (a, mc_df a))]) := ev_next h rfl
theorem ev_newarray {t : ArrayType} (h : mc_code k pc = some (.newarray t, 2, a, b, w, cc)) {n : Int32} (hn : ¬ (n < 0 ∨ 65536 < n.toNatClampNeg)) : mc_ev X k pc ls (.int n :: st) G = mc_ev X k (pc + 2) ls (.ref G.length :: st) (G ++ [.inl (a, n.toNatClampNeg, fun _ => 0)]) := ev_next h (by unfold mc_ex; dsimp only; rw [if_neg hn])
theorem ev_anewarray {i : Nat} (h : mc_code k pc = some (.anewarray i, 3, a, b, w, cc)) {n : Int32} (hn : ¬ (n < 0 ∨ 65536 < n.toNatClampNeg)) : mc_ev X k pc ls (.int n :: st) G = mc_ev X k (pc + 3) ls (.ref G.length :: st) (G ++ [.inr (.inl (a, n.toNatClampNeg, fun _ => none))]) := ev_next h (by unfold mc_ex; dsimp only; rw [if_neg hn])
theorem ev_objinit {i : Nat} (h : mc_code k pc = some (.invokespecial i, 3, 999, b, w, cc)) {r : Nat} (hr : st.length ≤ 4) : mc_ev X k pc ls (.ref r :: st) G = mc_ev X k (pc + 3) ls st G := ev_next h (by unfold mc_ex; dsimp only; rw [if_pos rfl, if_pos hr])
theorem ev_copy {i : Nat} (h : mc_code k pc = some (.invokestatic i, 3, 998, b, w, cc)) {n dp sp : Int32} {a1 a0 : Nat} (hr : st.length ≤ 4) : mc_ev X k pc ls (.int n :: .int dp :: .ref a1 :: .int sp :: .ref a0 :: st) G = (mc_cpy G a0 a1 sp dp n).bind (fun G' => mc_ev X k (pc + 3) ls st G') := ev_opt h (mc_cpy G a0 a1 sp dp n) (fun _ => ls) (fun _ => st) (fun G' => G') (fun q hq => by unfold mc_ex; dsimp only; rw [if_pos rfl, if_pos hr, hq]) (fun hq => by unfold mc_ex; dsimp only; rw [if_pos rfl, if_pos hr, hq])
theorem ev_abs {i : Nat} (h : mc_code k pc = some (.invokestatic i, 3, 176, b, w, cc)) {x : Int32} (hr : st.length ≤ 4) : mc_ev X k pc ls (.int x :: st) G = mc_ev X k (pc + 3) ls (.int (if 0 ≤ x then x else 0 - x) :: st) G := ev_next h (by unfold mc_ex; dsimp only; rw [if_neg (by decide), if_pos rfl, if_pos hr])
theorem ev_max {i : Nat} (h : mc_code k pc = some (.invokestatic i, 3, 177, b, w, cc)) {x y : Int32} (hr : st.length ≤ 4) : mc_ev X k pc ls (.int y :: .int x :: st) G = mc_ev X k (pc + 3) ls (.int (if x < y then y else x) :: st) G := ev_next h (by unfold mc_ex; dsimp only; rw [if_neg (by decide), if_neg (by decide), if_pos rfl, if_pos hr])
theorem ev_min {i : Nat} (h : mc_code k pc = some (.invokestatic i, 3, 178, b, w, cc)) {x y : Int32} (hr : st.length ≤ 4) : mc_ev X k pc ls (.int y :: .int x :: st) G = mc_ev X k (pc + 3) ls (.int (if y < x then y else x) :: st) G := ev_next h (by unfold mc_ex; dsimp only; rw [if_neg (by decide), if_neg (by decide), if_neg (by decide), if_pos rfl, if_pos hr])
theorem ev_call0 {E : mc_E} (h : mc_code k pc = some E) {cm : Nat} {cl rest : List Value} (hx : mc_ex X k pc E ls st G = some (.inr (.inl (cm, cl, rest)))) : mc_ev X k pc ls st G = (mc_ev X cm 0 cl [] G).bind (fun q => mc_ev X k (pc + 3) ls (q.1.toList ++ rest) q.2) := by
  rw [mc_ev_eq]; unfold mc_F mc_st; rw [h]; dsimp only; rw [hx]; dsimp only
  cases mc_ev X cm 0 cl [] G <;> rfl
theorem ev_virt {i : Nat} (h : mc_code k pc = some (.invokevirtual i, 3, a, b, w, cc)) {As rest : List Value} {r : Nat} (hst : st = As.reverse ++ .ref r :: rest) (hn : As.length = mc_np a) (hc : mc_c1 As.reverse = true) {cl : List Value} (hcl : mc_pad (mc_ml a) (.ref r :: As) = cl) {o : Nat} (ho : mc_own a = o) (hr : rest.length ≤ 4) (hG : mc_cls G r = some o) : mc_ev X k pc ls st G = (mc_ev X a 0 cl [] G).bind (fun q => mc_ev X k (pc + 3) ls (q.1.toList ++ rest) q.2) := by
  subst hcl ho
  have hl : As.reverse.length = mc_np a := by rw [List.length_reverse]; exact hn
  refine ev_call0 h ?_
  unfold mc_ex
  dsimp only
  have e1 : st.drop (mc_np a) = .ref r :: rest := by rw [hst, ← hl, List.drop_left]
  have e2 : st.take (mc_np a) = As.reverse := by rw [hst, ← hl, List.take_left]
  rw [e1, e2]
  dsimp only
  rw [if_pos ⟨hr, hG, hc⟩, List.reverse_reverse]
theorem ev_spec {i : Nat} (h : mc_code k pc = some (.invokespecial i, 3, a, b, w, cc)) (ha : a ≠ 999) {As rest : List Value} {r : Nat} (hst : st = As.reverse ++ .ref r :: rest) (hn : As.length = mc_np a) (hc : mc_c1 As.reverse = true) {cl : List Value} (hcl : mc_pad (mc_ml a) (.ref r :: As) = cl) (hr : rest.length ≤ 4) : mc_ev X k pc ls st G = (mc_ev X a 0 cl [] G).bind (fun q => mc_ev X k (pc + 3) ls (q.1.toList ++ rest) q.2) := by
  subst hcl
  have hl : As.reverse.length = mc_np a := by rw [List.length_reverse]; exact hn
  refine ev_call0 h ?_
  unfold mc_ex
  dsimp only
  have e1 : st.drop (mc_np a) = .ref r :: rest := by rw [hst, ← hl, List.drop_left]
  have e2 : st.take (mc_np a) = As.reverse := by rw [hst, ← hl, List.take_left]
  rw [if_neg ha, e1, e2]
  dsimp only
  rw [if_pos ⟨hr, hc⟩, List.reverse_reverse]
theorem ev_stat {i : Nat} (h : mc_code k pc = some (.invokestatic i, 3, a, b, w, cc)) (ha : a ≠ 998 ∧ a ≠ 176 ∧ a ≠ 177 ∧ a ≠ 178) {As rest : List Value} (hst : st = As.reverse ++ rest) (hn : As.length = mc_np a) (hc : mc_c1 As.reverse = true) {cl : List Value} (hcl : mc_pad (mc_ml a) As = cl) (hr : rest.length ≤ 4) : mc_ev X k pc ls st G = (mc_ev X a 0 cl [] G).bind (fun q => mc_ev X k (pc + 3) ls (q.1.toList ++ rest) q.2) := by
  subst hcl
  have hl : As.reverse.length = mc_np a := by rw [List.length_reverse]; exact hn
  refine ev_call0 h ?_
  unfold mc_ex
  dsimp only
  have e1 : st.drop (mc_np a) = rest := by rw [hst, ← hl, List.drop_left]
  have e2 : st.take (mc_np a) = As.reverse := by rw [hst, ← hl, List.take_left]
  have e3 : mc_np a ≤ st.length := by rw [hst, List.length_append]; omega
  rw [if_neg ha.1, if_neg ha.2.1, if_neg ha.2.2.1, if_neg ha.2.2.2, e1, e2, if_pos ⟨e3, hr, hc⟩, List.reverse_reverse]
theorem ev_end {E : mc_E} (h : mc_code k pc = some E) {v : Option Value} (hx : mc_ex X k pc E ls st G = some (.inr (.inr v))) : mc_ev X k pc ls st G = some (v, G) := by
  rw [mc_ev_eq]; unfold mc_F mc_st; rw [h]; dsimp only; rw [hx]
theorem ev_ireturn (h : mc_code k pc = some (.ireturn, 1, a, b, w, cc)) (hr : mc_rt k = some .int) {v : Int32} : mc_ev X k pc ls [.int v] G = some (some (.int v), G) := ev_end h (by unfold mc_ex; dsimp only; rw [if_pos (Or.inl hr)])
theorem ev_zreturn (h : mc_code k pc = some (.ireturn, 1, a, b, w, cc)) (hr : mc_rt k = some .boolean) {v : Int32} (hv : v = 0 ∨ v = 1) : mc_ev X k pc ls [.int v] G = some (some (.int v), G) := ev_end h (by unfold mc_ex; dsimp only; rw [if_pos (Or.inr ⟨hr, hv⟩)])
theorem ev_lreturn (h : mc_code k pc = some (.lreturn, 1, a, b, w, cc)) (hr : mc_rt k = some .long) {v : Int64} : mc_ev X k pc ls [.long v] G = some (some (.long v), G) := ev_end h (by unfold mc_ex; dsimp only; rw [if_pos hr])
theorem ev_areturn (h : mc_code k pc = some (.areturn, 1, a, b, w, cc)) {C : String} (hr : mc_rt k = some (.object C)) {v : Nat} : mc_ev X k pc ls [.ref v] G = some (some (.ref v), G) := ev_end h (by unfold mc_ex; dsimp only; rw [hr])
theorem ev_return (h : mc_code k pc = some (.return_, 1, a, b, w, cc)) (hr : mc_rt k = none) : mc_ev X k pc ls [] G = some (none, G) := ev_end h (by unfold mc_ex; dsimp only; rw [if_pos hr])
theorem ev_tabOut {d lo hi : Int} {offs : Array Int} {len : Nat} (h : mc_code k pc = some (.tableswitch d lo hi offs, len, a, b, w, cc)) {x : Int32} {tgt : Nat} (ht : mc_tgt pc d = tgt) (hx : x.toInt < lo ∨ hi < x.toInt) : mc_ev X k pc ls (.int x :: st) G = mc_ev X k tgt ls st G := by
  subst ht; exact ev_next h (by unfold mc_ex; dsimp only; rw [if_pos hx])
theorem ev_tabIn {d lo hi : Int} {offs : Array Int} {len : Nat} (h : mc_code k pc = some (.tableswitch d lo hi offs, len, a, b, w, cc)) {x : Int32} {off : Int} {tgt : Nat} (hx : ¬ (x.toInt < lo ∨ hi < x.toInt)) (ho : offs[(x.toInt - lo).toNat]? = some off) (hj : 0 ≤ (pc : Int) + off) (ht : mc_tgt pc off = tgt) : mc_ev X k pc ls (.int x :: st) G = mc_ev X k tgt ls st G := by
  subst ht; exact ev_next h (by unfold mc_ex; dsimp only; rw [if_neg hx, ho]; dsimp only; rw [if_pos hj])
theorem ev_look {d : Int} {ps : Array (Int × Int)} {len : Nat} (h : mc_code k pc = some (.lookupswitch d ps, len, a, b, w, cc)) {x : Int32} {tgt : Nat} (hj : 0 ≤ (pc : Int) + Op.lookupswitch.offset ps.toList d x.toInt) (ht : mc_tgt pc (Op.lookupswitch.offset ps.toList d x.toInt) = tgt) : mc_ev X k pc ls (.int x :: st) G = mc_ev X k tgt ls st G := by
  subst ht; exact ev_next h (by unfold mc_ex; dsimp only; rw [if_pos hj])
end EV
