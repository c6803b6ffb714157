theorem e_27 {X : mc_X} : (∀ (ls st : List Value) (G : mc_H), mc_ev X 27 0 ls st G = mc_ev X 27 1 ls (.int 1 :: st) G) ∧
  (∀ (x : Nat) (st : List Value) (G : mc_H), mc_ev X 27 1 [.ref x] st G = mc_ev X 27 2 [.ref x] (.ref x :: st) G) ∧
  (∀ (r : Nat) (ls st : List Value) (G : mc_H), mc_ev X 27 2 ls (.ref r :: st) G = (mc_getf G r 4 0).bind (fun v => mc_ev X 27 5 ls (v :: st) G)) ∧
  (∀ (r : Nat) (ls st : List Value) (G : mc_H), mc_ev X 27 5 ls (.ref r :: st) G = (mc_getf G r 0 2).bind (fun v => mc_ev X 27 8 ls (v :: st) G)) ∧
  (∀ (x y : Int32) (ls st : List Value) (G : mc_H), mc_ev X 27 8 ls (.int y :: .int x :: st) G = mc_ev X 27 9 ls (.int (x <<< (y &&& 31)) :: st) G) ∧
  (∀ (v : Int32) (ls : List Value) (G : mc_H), mc_ev X 27 9 ls [.int v] G = some (some (.int v), G)) := ⟨fun ls st G => ev_iconst rfl rfl,
  fun  x st G => ev_aload_n rfl rfl,
  fun r ls st G => ev_getfield rfl,
  fun r ls st G => ev_getfield rfl,
  fun x y ls st G => ev_ishl rfl,
  fun v ls G => ev_ireturn rfl rfl⟩
theorem e_28 {X : mc_X} : (∀ (ls st : List Value) (G : mc_H), mc_ev X 28 0 ls st G = mc_ev X 28 1 ls (.int 1 :: st) G) ∧
  (∀ (v1 : Value) (x : Nat) (st : List Value) (G : mc_H), mc_ev X 28 1 [.ref x, v1] st G = mc_ev X 28 2 [.ref x, v1] (.ref x :: st) G) ∧
  (∀ (r : Nat) (ls st : List Value) (G : mc_H), mc_ev X 28 2 ls (.ref r :: st) G = (mc_getf G r 4 0).bind (fun v => mc_ev X 28 5 ls (v :: st) G)) ∧
  (∀ (r : Nat) (ls st : List Value) (G : mc_H), mc_ev X 28 5 ls (.ref r :: st) G = (mc_getf G r 0 2).bind (fun v => mc_ev X 28 8 ls (v :: st) G)) ∧
  (∀ (ls st : List Value) (G : mc_H), mc_ev X 28 8 ls st G = mc_ev X 28 9 ls (.int 1 :: st) G) ∧
  (∀ (x y : Int32) (ls st : List Value) (G : mc_H), mc_ev X 28 9 ls (.int y :: .int x :: st) G = mc_ev X 28 10 ls (.int (x - y) :: st) G) ∧
  (∀ (v0 : Value) (x : Int32) (st : List Value) (G : mc_H), mc_ev X 28 10 [v0, .int x] st G = mc_ev X 28 11 [v0, .int x] (.int x :: st) G) ∧
  (∀ (x y : Int32) (ls st : List Value) (G : mc_H), mc_ev X 28 11 ls (.int y :: .int x :: st) G = mc_ev X 28 12 ls (.int (x - y) :: st) G) ∧
  (∀ (x y : Int32) (ls st : List Value) (G : mc_H), mc_ev X 28 12 ls (.int y :: .int x :: st) G = mc_ev X 28 13 ls (.int (x <<< (y &&& 31)) :: st) G) ∧
  (∀ (v : Int32) (ls : List Value) (G : mc_H), mc_ev X 28 13 ls [.int v] G = some (some (.int v), G)) := ⟨fun ls st G => ev_iconst rfl rfl,
  fun v1 x st G => ev_aload_n rfl rfl,
  fun r ls st G => ev_getfield rfl,
  fun r ls st G => ev_getfield rfl,
  fun ls st G => ev_iconst rfl rfl,
  fun x y ls st G => ev_isub rfl,
  fun v0 x st G => ev_iload_n rfl rfl,
  fun x y ls st G => ev_isub rfl,
  fun x y ls st G => ev_ishl rfl,
  fun v ls G => ev_ireturn rfl rfl⟩
theorem e_29 {X : mc_X} : (∀ (v0 v2 : Value) (x : Int32) (st : List Value) (G : mc_H), mc_ev X 29 0 [v0, .int x, v2] st G = mc_ev X 29 1 [v0, .int x, v2] (.int x :: st) G) ∧
  (∀ (v1 v2 : Value) (x : Nat) (st : List Value) (G : mc_H), mc_ev X 29 1 [.ref x, v1, v2] st G = mc_ev X 29 2 [.ref x, v1, v2] (.ref x :: st) G) ∧
  (∀ (r : Nat) (ls st : List Value) (G : mc_H), mc_ev X 29 2 ls (.ref r :: st) G = (mc_getf G r 4 0).bind (fun v => mc_ev X 29 5 ls (v :: st) G)) ∧
  (∀ (r : Nat) (ls st : List Value) (G : mc_H), mc_ev X 29 5 ls (.ref r :: st) G = (mc_getf G r 0 2).bind (fun v => mc_ev X 29 8 ls (v :: st) G)) ∧
  (∀ (ls st : List Value) (G : mc_H), mc_ev X 29 8 ls st G = mc_ev X 29 9 ls (.int 1 :: st) G) ∧
  (∀ (x y : Int32) (ls st : List Value) (G : mc_H), mc_ev X 29 9 ls (.int y :: .int x :: st) G = mc_ev X 29 10 ls (.int (x - y) :: st) G) ∧
  (∀ (v0 v1 : Value) (x : Int32) (st : List Value) (G : mc_H), mc_ev X 29 10 [v0, v1, .int x] st G = mc_ev X 29 11 [v0, v1, .int x] (.int x :: st) G) ∧
  (∀ (x y : Int32) (ls st : List Value) (G : mc_H), mc_ev X 29 11 ls (.int y :: .int x :: st) G = mc_ev X 29 12 ls (.int (x - y) :: st) G) ∧
  (∀ (x y : Int32) (ls st : List Value) (G : mc_H), mc_ev X 29 12 ls (.int y :: .int x :: st) G = mc_ev X 29 13 ls (.int (x >>> (y &&& 31)) :: st) G) ∧
  (∀ (ls st : List Value) (G : mc_H), mc_ev X 29 13 ls st G = mc_ev X 29 14 ls (.int 1 :: st) G) ∧
  (∀ (x y : Int32) (ls st : List Value) (G : mc_H), mc_ev X 29 14 ls (.int y :: .int x :: st) G = mc_ev X 29 15 ls (.int (x &&& y) :: st) G) ∧
  (∀ (v : Int32) (ls : List Value) (G : mc_H), mc_ev X 29 15 ls [.int v] G = some (some (.int v), G)) := ⟨fun v0 v2 x st G => ev_iload_n rfl rfl,
  fun v1 v2 x st G => ev_aload_n rfl rfl,
  fun r ls st G => ev_getfield rfl,
  fun r ls st G => ev_getfield rfl,
  fun ls st G => ev_iconst rfl rfl,
  fun x y ls st G => ev_isub rfl,
  fun v0 v1 x st G => ev_iload_n rfl rfl,
  fun x y ls st G => ev_isub rfl,
  fun x y ls st G => ev_ishr rfl,
  fun ls st G => ev_iconst rfl rfl,
  fun x y ls st G => ev_iand rfl,
  fun v ls G => ev_ireturn rfl rfl⟩
theorem e_30 {X : mc_X} : (∀ (v0 v1 v2 : Value) (x : Int32) (st : List Value) (G : mc_H), mc_ev X 30 0 [v0, v1, v2, .int x] st G = mc_ev X 30 1 [v0, v1, v2, .int x] (.int x :: st) G) ∧
  (∀ (x : Int32) (ls st : List Value) (G : mc_H), mc_ev X 30 1 ls (.int x :: st) G = if x = 0 then mc_ev X 30 14 ls st G else mc_ev X 30 4 ls st G) ∧
  (∀ (v0 v2 v3 : Value) (x : Int32) (st : List Value) (G : mc_H), mc_ev X 30 4 [v0, .int x, v2, v3] st G = mc_ev X 30 5 [v0, .int x, v2, v3] (.int x :: st) G) ∧
  (∀ (v1 v2 v3 : Value) (x : Nat) (st : List Value) (G : mc_H), mc_ev X 30 5 [.ref x, v1, v2, v3] st G = mc_ev X 30 6 [.ref x, v1, v2, v3] (.ref x :: st) G) ∧
  (∀ (v0 v1 v3 : Value) (x : Int32) (st : List Value) (G : mc_H), mc_ev X 30 6 [v0, v1, .int x, v3] st G = mc_ev X 30 7 [v0, v1, .int x, v3] (.int x :: st) G) ∧
  (∀ (a0 : Int32) (r : Nat) (ls st : List Value) (G : mc_H), st.length ≤ 4 → mc_cls G r = some 4 → mc_ev X 30 7 ls (.int a0 :: .ref r :: st) G = (mc_ev X 28 0 [.ref r, .int a0] [] G).bind (fun q => mc_ev X 30 10 ls (q.1.toList ++ st) q.2)) ∧
  (∀ (x y : Int32) (ls st : List Value) (G : mc_H), mc_ev X 30 10 ls (.int y :: .int x :: st) G = mc_ev X 30 11 ls (.int (x ||| y) :: st) G) ∧
  (∀ (ls st : List Value) (G : mc_H), mc_ev X 30 11 ls st G = mc_ev X 30 23 ls st G) ∧
  (∀ (v0 v2 v3 : Value) (x : Int32) (st : List Value) (G : mc_H), mc_ev X 30 14 [v0, .int x, v2, v3] st G = mc_ev X 30 15 [v0, .int x, v2, v3] (.int x :: st) G) ∧
  (∀ (v1 v2 v3 : Value) (x : Nat) (st : List Value) (G : mc_H), mc_ev X 30 15 [.ref x, v1, v2, v3] st G = mc_ev X 30 16 [.ref x, v1, v2, v3] (.ref x :: st) G) ∧
  (∀ (v0 v1 v3 : Value) (x : Int32) (st : List Value) (G : mc_H), mc_ev X 30 16 [v0, v1, .int x, v3] st G = mc_ev X 30 17 [v0, v1, .int x, v3] (.int x :: st) G) ∧
  (∀ (a0 : Int32) (r : Nat) (ls st : List Value) (G : mc_H), st.length ≤ 4 → mc_cls G r = some 4 → mc_ev X 30 17 ls (.int a0 :: .ref r :: st) G = (mc_ev X 28 0 [.ref r, .int a0] [] G).bind (fun q => mc_ev X 30 20 ls (q.1.toList ++ st) q.2)) ∧
  (∀ (ls st : List Value) (G : mc_H), mc_ev X 30 20 ls st G = mc_ev X 30 21 ls (.int (-1) :: st) G) ∧
  (∀ (x y : Int32) (ls st : List Value) (G : mc_H), mc_ev X 30 21 ls (.int y :: .int x :: st) G = mc_ev X 30 22 ls (.int (x ^^^ y) :: st) G) ∧
  (∀ (x y : Int32) (ls st : List Value) (G : mc_H), mc_ev X 30 22 ls (.int y :: .int x :: st) G = mc_ev X 30 23 ls (.int (x &&& y) :: st) G) ∧
  (∀ (v : Int32) (ls : List Value) (G : mc_H), mc_ev X 30 23 ls [.int v] G = some (some (.int v), G)) := ⟨fun v0 v1 v2 x st G => ev_iload_n rfl rfl,
  fun x ls st G => ev_br rfl rfl,
  fun v0 v2 v3 x st G => ev_iload_n rfl rfl,
  fun v1 v2 v3 x st G => ev_aload_n rfl rfl,
  fun v0 v1 v3 x st G => ev_iload_n rfl rfl,
  fun a0 r ls st G hr hG => ev_virt (As := [.int a0]) rfl rfl rfl rfl rfl rfl hr hG,
  fun x y ls st G => ev_ior rfl,
  fun ls st G => ev_goto rfl rfl,
  fun v0 v2 v3 x st G => ev_iload_n rfl rfl,
  fun v1 v2 v3 x st G => ev_aload_n rfl rfl,
  fun v0 v1 v3 x st G => ev_iload_n rfl rfl,
  fun a0 r ls st G hr hG => ev_virt (As := [.int a0]) rfl rfl rfl rfl rfl rfl hr hG,
  fun ls st G => ev_iconst rfl rfl,
  fun x y ls st G => ev_ixor rfl,
  fun x y ls st G => ev_iand rfl,
  fun v ls G => ev_ireturn rfl rfl⟩
theorem e_31 {X : mc_X} : (∀ (v1 v2 : Value) (x : Nat) (st : List Value) (G : mc_H), mc_ev X 31 0 [.ref x, v1, v2] st G = mc_ev X 31 1 [.ref x, v1, v2] (.ref x :: st) G) ∧
  (∀ (r : Nat) (ls st : List Value) (G : mc_H), mc_ev X 31 1 ls (.ref r :: st) G = (mc_getf G r 4 1).bind (fun v => mc_ev X 31 4 ls (v :: st) G)) ∧
  (∀ (r : Nat) (ls st : List Value) (G : mc_H), mc_ev X 31 4 ls (.ref r :: st) G = (mc_getf G r 5 3).bind (fun v => mc_ev X 31 7 ls (v :: st) G)) ∧
  (∀ (v0 v2 : Value) (x : Int32) (st : List Value) (G : mc_H), mc_ev X 31 7 [v0, .int x, v2] st G = mc_ev X 31 8 [v0, .int x, v2] (.int x :: st) G) ∧
  (∀ (i : Int32) (r : Value) (ls st : List Value) (G : mc_H), mc_ev X 31 8 ls (.int i :: r :: st) G = (mc_getA X G 0 r i).bind (fun x => mc_ev X 31 9 ls (.int x :: st) G)) ∧
  (∀ (v0 v1 v2 : Value) (x : Int32) (st : List Value) (G : mc_H), mc_ev X 31 9 [v0, v1, v2] (.int x :: st) G = mc_ev X 31 10 [v0, v1, .int x] st G) ∧
  (∀ (v0 v1 : Value) (x : Int32) (st : List Value) (G : mc_H), mc_ev X 31 10 [v0, v1, .int x] st G = mc_ev X 31 11 [v0, v1, .int x] (.int x :: st) G) ∧
  (∀ (ls st : List Value) (G : mc_H), mc_ev X 31 11 ls st G = mc_ev X 31 12 ls (.int 1 :: st) G) ∧
  (∀ (x y : Int32) (ls st : List Value) (G : mc_H), mc_ev X 31 12 ls (.int y :: .int x :: st) G = if x = y then mc_ev X 31 35 ls st G else mc_ev X 31 15 ls st G) ∧
  (∀ (v0 v1 : Value) (x : Int32) (st : List Value) (G : mc_H), mc_ev X 31 15 [v0, v1, .int x] st G = mc_ev X 31 16 [v0, v1, .int x] (.int x :: st) G) ∧
  (∀ (ls st : List Value) (G : mc_H), mc_ev X 31 16 ls st G = mc_ev X 31 17 ls (.int 4 :: st) G) ∧
  (∀ (x y : Int32) (ls st : List Value) (G : mc_H), mc_ev X 31 17 ls (.int y :: .int x :: st) G = if x = y then mc_ev X 31 20 ls st G else mc_ev X 31 39 ls st G) ∧
  (∀ (v1 v2 : Value) (x : Nat) (st : List Value) (G : mc_H), mc_ev X 31 20 [.ref x, v1, v2] st G = mc_ev X 31 21 [.ref x, v1, v2] (.ref x :: st) G) ∧
  (∀ (v1 v2 : Value) (x : Nat) (st : List Value) (G : mc_H), mc_ev X 31 21 [.ref x, v1, v2] st G = mc_ev X 31 22 [.ref x, v1, v2] (.ref x :: st) G) ∧
  (∀ (r : Nat) (ls st : List Value) (G : mc_H), mc_ev X 31 22 ls (.ref r :: st) G = (mc_getf G r 4 1).bind (fun v => mc_ev X 31 25 ls (v :: st) G)) ∧
  (∀ (r : Nat) (ls st : List Value) (G : mc_H), mc_ev X 31 25 ls (.ref r :: st) G = (mc_getf G r 5 2).bind (fun v => mc_ev X 31 28 ls (v :: st) G)) ∧
  (∀ (v0 v2 : Value) (x : Int32) (st : List Value) (G : mc_H), mc_ev X 31 28 [v0, .int x, v2] st G = mc_ev X 31 29 [v0, .int x, v2] (.int x :: st) G) ∧
  (∀ (a0 : Int32) (a1 : Int32) (r : Nat) (ls st : List Value) (G : mc_H), st.length ≤ 4 → mc_cls G r = some 4 → mc_ev X 31 29 ls (.int a1 :: .int a0 :: .ref r :: st) G = (mc_ev X 29 0 [.ref r, .int a0, .int a1] [] G).bind (fun q => mc_ev X 31 32 ls (q.1.toList ++ st) q.2)) ∧
  (∀ (x : Int32) (ls st : List Value) (G : mc_H), mc_ev X 31 32 ls (.int x :: st) G = if x = 0 then mc_ev X 31 35 ls st G else mc_ev X 31 39 ls st G) ∧
  (∀ (ls st : List Value) (G : mc_H), mc_ev X 31 35 ls st G = mc_ev X 31 36 ls (.int 1 :: st) G) ∧
  (∀ (ls st : List Value) (G : mc_H), mc_ev X 31 36 ls st G = mc_ev X 31 40 ls st G) ∧
  (∀ (ls st : List Value) (G : mc_H), mc_ev X 31 39 ls st G = mc_ev X 31 40 ls (.int 0 :: st) G) ∧
  (∀ (v : Int32) (ls : List Value) (G : mc_H), (v = 0 ∨ v = 1) → mc_ev X 31 40 ls [.int v] G = some (some (.int v), G)) := ⟨fun v1 v2 x st G => ev_aload_n rfl rfl,
  fun r ls st G => ev_getfield rfl,
  fun r ls st G => ev_getfield rfl,
  fun v0 v2 x st G => ev_iload_n rfl rfl,
  fun i r ls st G => ev_iaload rfl,
  fun v0 v1 v2 x st G => ev_istore_n (X := X) (k := 31) (pc := 9) (ls := [v0, v1, v2]) (st := st) (G := G) (j := 2) (x := x) rfl (Nat.le_of_ble_eq_true rfl),
  fun v0 v1 x st G => ev_iload_n rfl rfl,
  fun ls st G => ev_iconst rfl rfl,
  fun x y ls st G => ev_br rfl rfl,
  fun v0 v1 x st G => ev_iload_n rfl rfl,
  fun ls st G => ev_iconst rfl rfl,
  fun x y ls st G => ev_br rfl rfl,
  fun v1 v2 x st G => ev_aload_n rfl rfl,
  fun v1 v2 x st G => ev_aload_n rfl rfl,
  fun r ls st G => ev_getfield rfl,
  fun r ls st G => ev_getfield rfl,
  fun v0 v2 x st G => ev_iload_n rfl rfl,
  fun a0 a1 r ls st G hr hG => ev_virt (As := [.int a0, .int a1]) rfl rfl rfl rfl rfl rfl hr hG,
  fun x ls st G => ev_br rfl rfl,
  fun ls st G => ev_iconst rfl rfl,
  fun ls st G => ev_goto rfl rfl,
  fun ls st G => ev_iconst rfl rfl,
  fun v ls G hv => ev_zreturn rfl rfl hv⟩
theorem h_32_4 {X : mc_X} : ∀ (v0 v1 : Value) (x : Int32) (st : List Value) (G : mc_H), mc_ev X 32 4 [v0, v1, .int x] st G = mc_ev X 32 5 [v0, v1, .int x] (.int x :: st) G := fun v0 v1 x st G => ev_iload_n rfl rfl
theorem e_32 {X : mc_X} : (∀ (ls st : List Value) (G : mc_H), mc_ev X 32 0 ls st G = mc_ev X 32 1 ls (.int 0 :: st) G) ∧
  (∀ (v0 v1 v2 : Value) (x : Int32) (st : List Value) (G : mc_H), mc_ev X 32 1 [v0, v1, v2] (.int x :: st) G = mc_ev X 32 2 [v0, .int x, v2] st G) ∧
  (∀ (ls st : List Value) (G : mc_H), mc_ev X 32 2 ls st G = mc_ev X 32 3 ls (.int 0 :: st) G) ∧
  (∀ (v0 v1 v2 : Value) (x : Int32) (st : List Value) (G : mc_H), mc_ev X 32 3 [v0, v1, v2] (.int x :: st) G = mc_ev X 32 4 [v0, v1, .int x] st G) ∧
  (∀ (v1 v2 : Value) (x : Nat) (st : List Value) (G : mc_H), mc_ev X 32 5 [.ref x, v1, v2] st G = mc_ev X 32 6 [.ref x, v1, v2] (.ref x :: st) G) ∧
  (∀ (r : Nat) (ls st : List Value) (G : mc_H), mc_ev X 32 6 ls (.ref r :: st) G = (mc_getf G r 4 0).bind (fun v => mc_ev X 32 9 ls (v :: st) G)) ∧
  (∀ (r : Nat) (ls st : List Value) (G : mc_H), mc_ev X 32 9 ls (.ref r :: st) G = (mc_getf G r 0 2).bind (fun v => mc_ev X 32 12 ls (v :: st) G)) ∧
  (∀ (x y : Int32) (ls st : List Value) (G : mc_H), mc_ev X 32 12 ls (.int y :: .int x :: st) G = if x < y then mc_ev X 32 15 ls st G else mc_ev X 32 33 ls st G) ∧
  (∀ (v1 v2 : Value) (x : Nat) (st : List Value) (G : mc_H), mc_ev X 32 15 [.ref x, v1, v2] st G = mc_ev X 32 16 [.ref x, v1, v2] (.ref x :: st) G) ∧
  (∀ (v0 v2 : Value) (x : Int32) (st : List Value) (G : mc_H), mc_ev X 32 16 [v0, .int x, v2] st G = mc_ev X 32 17 [v0, .int x, v2] (.int x :: st) G) ∧
  (∀ (v0 v1 : Value) (x : Int32) (st : List Value) (G : mc_H), mc_ev X 32 17 [v0, v1, .int x] st G = mc_ev X 32 18 [v0, v1, .int x] (.int x :: st) G) ∧
  (∀ (v1 v2 : Value) (x : Nat) (st : List Value) (G : mc_H), mc_ev X 32 18 [.ref x, v1, v2] st G = mc_ev X 32 19 [.ref x, v1, v2] (.ref x :: st) G) ∧
  (∀ (v0 v1 : Value) (x : Int32) (st : List Value) (G : mc_H), mc_ev X 32 19 [v0, v1, .int x] st G = mc_ev X 32 20 [v0, v1, .int x] (.int x :: st) G) ∧
  (∀ (a0 : Int32) (r : Nat) (ls st : List Value) (G : mc_H), st.length ≤ 4 → mc_cls G r = some 4 → mc_ev X 32 20 ls (.int a0 :: .ref r :: st) G = (mc_ev X 31 0 [.ref r, .int a0, .null] [] G).bind (fun q => mc_ev X 32 23 ls (q.1.toList ++ st) q.2)) ∧
  (∀ (a0 : Int32) (a1 : Int32) (a2 : Int32) (r : Nat) (ls st : List Value) (G : mc_H), st.length ≤ 4 → mc_cls G r = some 4 → mc_ev X 32 23 ls (.int a2 :: .int a1 :: .int a0 :: .ref r :: st) G = (mc_ev X 30 0 [.ref r, .int a0, .int a1, .int a2] [] G).bind (fun q => mc_ev X 32 26 ls (q.1.toList ++ st) q.2)) ∧
  (∀ (v0 v1 v2 : Value) (x : Int32) (st : List Value) (G : mc_H), mc_ev X 32 26 [v0, v1, v2] (.int x :: st) G = mc_ev X 32 27 [v0, .int x, v2] st G) ∧
  (∀ (v0 v1 : Value) (x : Int32) (st : List Value) (G : mc_H), mc_ev X 32 27 [v0, v1, .int x] st G = mc_ev X 32 30 [v0, v1, .int (x + 1)] st G) ∧
  (∀ (ls st : List Value) (G : mc_H), mc_ev X 32 30 ls st G = mc_ev X 32 4 ls st G) ∧
  (∀ (v0 v2 : Value) (x : Int32) (st : List Value) (G : mc_H), mc_ev X 32 33 [v0, .int x, v2] st G = mc_ev X 32 34 [v0, .int x, v2] (.int x :: st) G) ∧
  (∀ (v : Int32) (ls : List Value) (G : mc_H), mc_ev X 32 34 ls [.int v] G = some (some (.int v), G)) := ⟨fun ls st G => ev_iconst rfl rfl,
  fun v0 v1 v2 x st G => ev_istore_n (X := X) (k := 32) (pc := 1) (ls := [v0, v1, v2]) (st := st) (G := G) (j := 1) (x := x) rfl (Nat.le_of_ble_eq_true rfl),
  fun ls st G => ev_iconst rfl rfl,
  fun v0 v1 v2 x st G => ev_istore_n (X := X) (k := 32) (pc := 3) (ls := [v0, v1, v2]) (st := st) (G := G) (j := 2) (x := x) rfl (Nat.le_of_ble_eq_true rfl),
  fun v1 v2 x st G => ev_aload_n rfl rfl,
  fun r ls st G => ev_getfield rfl,
  fun r ls st G => ev_getfield rfl,
  fun x y ls st G => ev_br rfl rfl,
  fun v1 v2 x st G => ev_aload_n rfl rfl,
  fun v0 v2 x st G => ev_iload_n rfl rfl,
  fun v0 v1 x st G => ev_iload_n rfl rfl,
  fun v1 v2 x st G => ev_aload_n rfl rfl,
  fun v0 v1 x st G => ev_iload_n rfl rfl,
  fun a0 r ls st G hr hG => ev_virt (As := [.int a0]) rfl rfl rfl rfl rfl rfl hr hG,
  fun a0 a1 a2 r ls st G hr hG => ev_virt (As := [.int a0, .int a1, .int a2]) rfl rfl rfl rfl rfl rfl hr hG,
  fun v0 v1 v2 x st G => ev_istore_n (X := X) (k := 32) (pc := 26) (ls := [v0, v1, v2]) (st := st) (G := G) (j := 1) (x := x) rfl (Nat.le_of_ble_eq_true rfl),
  fun v0 v1 x st G => ev_iinc (X := X) (k := 32) (pc := 27) (ls := [v0, v1, .int x]) (st := st) (G := G) (j := 2) (n := 1) (x := x) (v := 1) rfl rfl rfl,
  fun ls st G => ev_goto rfl rfl,
  fun v0 v2 x st G => ev_iload_n rfl rfl,
  fun v ls G => ev_ireturn rfl rfl⟩
theorem e_33 {X : mc_X} : (∀ (v1 : Value) (x : Nat) (st : List Value) (G : mc_H), mc_ev X 33 0 [.ref x, v1] st G = mc_ev X 33 1 [.ref x, v1] (.ref x :: st) G) ∧
  (∀ (r : Nat) (ls st : List Value) (G : mc_H), st.length ≤ 4 → mc_cls G r = some 4 → mc_ev X 33 1 ls (.ref r :: st) G = (mc_ev X 32 0 [.ref r, .null, .null] [] G).bind (fun q => mc_ev X 33 4 ls (q.1.toList ++ st) q.2)) ∧
  (∀ (v0 v1 : Value) (x : Int32) (st : List Value) (G : mc_H), mc_ev X 33 4 [v0, v1] (.int x :: st) G = mc_ev X 33 5 [v0, .int x] st G) ∧
  (∀ (v1 : Value) (x : Nat) (st : List Value) (G : mc_H), mc_ev X 33 5 [.ref x, v1] st G = mc_ev X 33 6 [.ref x, v1] (.ref x :: st) G) ∧
  (∀ (r : Nat) (ls st : List Value) (G : mc_H), mc_ev X 33 6 ls (.ref r :: st) G = (mc_getf G r 4 1).bind (fun v => mc_ev X 33 9 ls (v :: st) G)) ∧
  (∀ (r : Nat) (ls st : List Value) (G : mc_H), mc_ev X 33 9 ls (.ref r :: st) G = (mc_getf G r 5 0).bind (fun v => mc_ev X 33 12 ls (v :: st) G)) ∧
  (∀ (v0 : Value) (x : Int32) (st : List Value) (G : mc_H), mc_ev X 33 12 [v0, .int x] st G = mc_ev X 33 13 [v0, .int x] (.int x :: st) G) ∧
  (∀ (ls st : List Value) (G : mc_H), mc_ev X 33 13 ls st G = mc_ev X 33 14 ls (.int (-1) :: st) G) ∧
  (∀ (x y : Int32) (ls st : List Value) (G : mc_H), mc_ev X 33 14 ls (.int y :: .int x :: st) G = mc_ev X 33 15 ls (.int (x ^^^ y) :: st) G) ∧
  (∀ (x y : Int32) (ls st : List Value) (G : mc_H), mc_ev X 33 15 ls (.int y :: .int x :: st) G = mc_ev X 33 16 ls (.int (x &&& y) :: st) G) ∧
  (∀ (v1 : Value) (x : Nat) (st : List Value) (G : mc_H), mc_ev X 33 16 [.ref x, v1] st G = mc_ev X 33 17 [.ref x, v1] (.ref x :: st) G) ∧
  (∀ (r : Nat) (ls st : List Value) (G : mc_H), mc_ev X 33 17 ls (.ref r :: st) G = (mc_getf G r 4 1).bind (fun v => mc_ev X 33 20 ls (v :: st) G)) ∧
  (∀ (r : Nat) (ls st : List Value) (G : mc_H), mc_ev X 33 20 ls (.ref r :: st) G = (mc_getf G r 5 1).bind (fun v => mc_ev X 33 23 ls (v :: st) G)) ∧
  (∀ (v0 : Value) (x : Int32) (st : List Value) (G : mc_H), mc_ev X 33 23 [v0, .int x] st G = mc_ev X 33 24 [v0, .int x] (.int x :: st) G) ∧
  (∀ (x y : Int32) (ls st : List Value) (G : mc_H), mc_ev X 33 24 ls (.int y :: .int x :: st) G = mc_ev X 33 25 ls (.int (x &&& y) :: st) G) ∧
  (∀ (x y : Int32) (ls st : List Value) (G : mc_H), mc_ev X 33 25 ls (.int y :: .int x :: st) G = mc_ev X 33 26 ls (.int (x ||| y) :: st) G) ∧
  (∀ (v : Int32) (ls : List Value) (G : mc_H), mc_ev X 33 26 ls [.int v] G = some (some (.int v), G)) := ⟨fun v1 x st G => ev_aload_n rfl rfl,
  fun r ls st G hr hG => ev_virt (As := []) rfl rfl rfl rfl rfl rfl hr hG,
  fun v0 v1 x st G => ev_istore_n (X := X) (k := 33) (pc := 4) (ls := [v0, v1]) (st := st) (G := G) (j := 1) (x := x) rfl (Nat.le_of_ble_eq_true rfl),
  fun v1 x st G => ev_aload_n rfl rfl,
  fun r ls st G => ev_getfield rfl,
  fun r ls st G => ev_getfield rfl,
  fun v0 x st G => ev_iload_n rfl rfl,
  fun ls st G => ev_iconst rfl rfl,
  fun x y ls st G => ev_ixor rfl,
  fun x y ls st G => ev_iand rfl,
  fun v1 x st G => ev_aload_n rfl rfl,
  fun r ls st G => ev_getfield rfl,
  fun r ls st G => ev_getfield rfl,
  fun v0 x st G => ev_iload_n rfl rfl,
  fun x y ls st G => ev_iand rfl,
  fun x y ls st G => ev_ior rfl,
  fun v ls G => ev_ireturn rfl rfl⟩
theorem e_34 {X : mc_X} : (∀ (v1 v2 v3 : Value) (x : Nat) (st : List Value) (G : mc_H), mc_ev X 34 0 [.ref x, v1, v2, v3] st G = mc_ev X 34 1 [.ref x, v1, v2, v3] (.ref x :: st) G) ∧
  (∀ (r : Nat) (ls st : List Value) (G : mc_H), mc_ev X 34 1 ls (.ref r :: st) G = (mc_getf G r 4 1).bind (fun v => mc_ev X 34 4 ls (v :: st) G)) ∧
  (∀ (r : Nat) (ls st : List Value) (G : mc_H), mc_ev X 34 4 ls (.ref r :: st) G = (mc_getf G r 5 3).bind (fun v => mc_ev X 34 7 ls (v :: st) G)) ∧
  (∀ (v1 v2 v3 : Value) (x : Nat) (st : List Value) (G : mc_H), mc_ev X 34 7 [.ref x, v1, v2, v3] st G = mc_ev X 34 8 [.ref x, v1, v2, v3] (.ref x :: st) G) ∧
  (∀ (r : Nat) (ls st : List Value) (G : mc_H), mc_ev X 34 8 ls (.ref r :: st) G = (mc_getf G r 4 0).bind (fun v => mc_ev X 34 11 ls (v :: st) G)) ∧
  (∀ (r : Nat) (ls st : List Value) (G : mc_H), mc_ev X 34 11 ls (.ref r :: st) G = (mc_getf G r 0 6).bind (fun v => mc_ev X 34 14 ls (v :: st) G)) ∧
  (∀ (v0 v2 v3 : Value) (x : Int32) (st : List Value) (G : mc_H), mc_ev X 34 14 [v0, .int x, v2, v3] st G = mc_ev X 34 15 [v0, .int x, v2, v3] (.int x :: st) G) ∧
  (∀ (i : Int32) (r : Value) (ls st : List Value) (G : mc_H), mc_ev X 34 15 ls (.int i :: r :: st) G = (mc_getA X G 0 r i).bind (fun x => mc_ev X 34 16 ls (.int x :: st) G)) ∧
  (∀ (i : Int32) (r : Value) (ls st : List Value) (G : mc_H), mc_ev X 34 16 ls (.int i :: r :: st) G = (mc_getA X G 0 r i).bind (fun x => mc_ev X 34 17 ls (.int x :: st) G)) ∧
  (∀ (v0 v1 v2 v3 : Value) (x : Int32) (st : List Value) (G : mc_H), mc_ev X 34 17 [v0, v1, v2, v3] (.int x :: st) G = mc_ev X 34 18 [v0, v1, .int x, v3] st G) ∧
  (∀ (v1 v2 v3 : Value) (x : Nat) (st : List Value) (G : mc_H), mc_ev X 34 18 [.ref x, v1, v2, v3] st G = mc_ev X 34 19 [.ref x, v1, v2, v3] (.ref x :: st) G) ∧
  (∀ (r : Nat) (ls st : List Value) (G : mc_H), mc_ev X 34 19 ls (.ref r :: st) G = (mc_getf G r 4 1).bind (fun v => mc_ev X 34 22 ls (v :: st) G)) ∧
  (∀ (r : Nat) (ls st : List Value) (G : mc_H), mc_ev X 34 22 ls (.ref r :: st) G = (mc_getf G r 5 3).bind (fun v => mc_ev X 34 25 ls (v :: st) G)) ∧
  (∀ (v1 v2 v3 : Value) (x : Nat) (st : List Value) (G : mc_H), mc_ev X 34 25 [.ref x, v1, v2, v3] st G = mc_ev X 34 26 [.ref x, v1, v2, v3] (.ref x :: st) G) ∧
  (∀ (r : Nat) (ls st : List Value) (G : mc_H), mc_ev X 34 26 ls (.ref r :: st) G = (mc_getf G r 4 0).bind (fun v => mc_ev X 34 29 ls (v :: st) G)) ∧
  (∀ (r : Nat) (ls st : List Value) (G : mc_H), mc_ev X 34 29 ls (.ref r :: st) G = (mc_getf G r 0 7).bind (fun v => mc_ev X 34 32 ls (v :: st) G)) ∧
  (∀ (v0 v2 v3 : Value) (x : Int32) (st : List Value) (G : mc_H), mc_ev X 34 32 [v0, .int x, v2, v3] st G = mc_ev X 34 33 [v0, .int x, v2, v3] (.int x :: st) G) ∧
  (∀ (i : Int32) (r : Value) (ls st : List Value) (G : mc_H), mc_ev X 34 33 ls (.int i :: r :: st) G = (mc_getA X G 0 r i).bind (fun x => mc_ev X 34 34 ls (.int x :: st) G)) ∧
  (∀ (i : Int32) (r : Value) (ls st : List Value) (G : mc_H), mc_ev X 34 34 ls (.int i :: r :: st) G = (mc_getA X G 0 r i).bind (fun x => mc_ev X 34 35 ls (.int x :: st) G)) ∧
  (∀ (v0 v1 v2 v3 : Value) (x : Int32) (st : List Value) (G : mc_H), mc_ev X 34 35 [v0, v1, v2, v3] (.int x :: st) G = mc_ev X 34 36 [v0, v1, v2, .int x] st G) ∧
  (∀ (v1 v2 v3 : Value) (x : Nat) (st : List Value) (G : mc_H), mc_ev X 34 36 [.ref x, v1, v2, v3] st G = mc_ev X 34 37 [.ref x, v1, v2, v3] (.ref x :: st) G) ∧
  (∀ (r : Nat) (ls st : List Value) (G : mc_H), mc_ev X 34 37 ls (.ref r :: st) G = (mc_getf G r 4 1).bind (fun v => mc_ev X 34 40 ls (v :: st) G)) ∧
  (∀ (r : Nat) (ls st : List Value) (G : mc_H), mc_ev X 34 40 ls (.ref r :: st) G = (mc_getf G r 5 4).bind (fun v => mc_ev X 34 43 ls (v :: st) G)) ∧
  (∀ (v0 v2 v3 : Value) (x : Int32) (st : List Value) (G : mc_H), mc_ev X 34 43 [v0, .int x, v2, v3] st G = mc_ev X 34 44 [v0, .int x, v2, v3] (.int x :: st) G) ∧
  (∀ (i : Int32) (r : Value) (ls st : List Value) (G : mc_H), mc_ev X 34 44 ls (.int i :: r :: st) G = (mc_getA X G 0 r i).bind (fun x => mc_ev X 34 45 ls (.int x :: st) G)) ∧
  (∀ (ls st : List Value) (G : mc_H), mc_ev X 34 45 ls st G = mc_ev X 34 48 ls (.float 0 :: st) G) ∧
  (∀ (v0 v1 v3 : Value) (x : Int32) (st : List Value) (G : mc_H), mc_ev X 34 48 [v0, v1, .int x, v3] st G = mc_ev X 34 49 [v0, v1, .int x, v3] (.int x :: st) G) ∧
  (∀ (i : Int32) (r : Value) (ls st : List Value) (G : mc_H), mc_ev X 34 49 ls (.int i :: r :: st) G = (mc_getA X G 0 r i).bind (fun x => mc_ev X 34 50 ls (.int x :: st) G)) ∧
  (∀ (x y : Int32) (ls st : List Value) (G : mc_H), mc_ev X 34 50 ls (.int y :: .int x :: st) G = mc_ev X 34 51 ls (.int (x * y) :: st) G) ∧
  (∀ (ls st : List Value) (G : mc_H), mc_ev X 34 51 ls st G = mc_ev X 34 54 ls (.float 0 :: st) G) ∧
  (∀ (v0 v1 v2 : Value) (x : Int32) (st : List Value) (G : mc_H), mc_ev X 34 54 [v0, v1, v2, .int x] st G = mc_ev X 34 55 [v0, v1, v2, .int x] (.int x :: st) G) ∧
  (∀ (i : Int32) (r : Value) (ls st : List Value) (G : mc_H), mc_ev X 34 55 ls (.int i :: r :: st) G = (mc_getA X G 0 r i).bind (fun x => mc_ev X 34 56 ls (.int x :: st) G)) ∧
  (∀ (x y : Int32) (ls st : List Value) (G : mc_H), mc_ev X 34 56 ls (.int y :: .int x :: st) G = mc_ev X 34 57 ls (.int (x * y) :: st) G) ∧
  (∀ (v : Int32) (ls : List Value) (G : mc_H), mc_ev X 34 57 ls [.int v] G = some (some (.int v), G)) := ⟨fun v1 v2 v3 x st G => ev_aload_n rfl rfl,
  fun r ls st G => ev_getfield rfl,
  fun r ls st G => ev_getfield rfl,
  fun v1 v2 v3 x st G => ev_aload_n rfl rfl,
  fun r ls st G => ev_getfield rfl,
  fun r ls st G => ev_getfield rfl,
  fun v0 v2 v3 x st G => ev_iload_n rfl rfl,
  fun i r ls st G => ev_iaload rfl,
  fun i r ls st G => ev_iaload rfl,
  fun v0 v1 v2 v3 x st G => ev_istore_n (X := X) (k := 34) (pc := 17) (ls := [v0, v1, v2, v3]) (st := st) (G := G) (j := 2) (x := x) rfl (Nat.le_of_ble_eq_true rfl),
  fun v1 v2 v3 x st G => ev_aload_n rfl rfl,
  fun r ls st G => ev_getfield rfl,
  fun r ls st G => ev_getfield rfl,
  fun v1 v2 v3 x st G => ev_aload_n rfl rfl,
  fun r ls st G => ev_getfield rfl,
  fun r ls st G => ev_getfield rfl,
  fun v0 v2 v3 x st G => ev_iload_n rfl rfl,
  fun i r ls st G => ev_iaload rfl,
  fun i r ls st G => ev_iaload rfl,
  fun v0 v1 v2 v3 x st G => ev_istore_n (X := X) (k := 34) (pc := 35) (ls := [v0, v1, v2, v3]) (st := st) (G := G) (j := 3) (x := x) rfl (Nat.le_of_ble_eq_true rfl),
  fun v1 v2 v3 x st G => ev_aload_n rfl rfl,
  fun r ls st G => ev_getfield rfl,
  fun r ls st G => ev_getfield rfl,
  fun v0 v2 v3 x st G => ev_iload_n rfl rfl,
  fun i r ls st G => ev_iaload rfl,
  fun ls st G => ev_getstatic rfl rfl,
  fun v0 v1 v3 x st G => ev_iload_n rfl rfl,
  fun i r ls st G => ev_iaload rfl,
  fun x y ls st G => ev_imul rfl,
  fun ls st G => ev_getstatic rfl rfl,
  fun v0 v1 v2 x st G => ev_iload_n rfl rfl,
  fun i r ls st G => ev_iaload rfl,
  fun x y ls st G => ev_imul rfl,
  fun v ls G => ev_ireturn rfl rfl⟩
theorem e_35 {X : mc_X} : (∀ (v1 : Value) (x : Nat) (st : List Value) (G : mc_H), mc_ev X 35 0 [.ref x, v1] st G = mc_ev X 35 1 [.ref x, v1] (.ref x :: st) G) ∧
  (∀ (v0 : Value) (x : Int32) (st : List Value) (G : mc_H), mc_ev X 35 1 [v0, .int x] st G = mc_ev X 35 2 [v0, .int x] (.int x :: st) G) ∧
  (∀ (a0 : Int32) (r : Nat) (ls st : List Value) (G : mc_H), st.length ≤ 4 → mc_cls G r = some 4 → mc_ev X 35 2 ls (.int a0 :: .ref r :: st) G = (mc_ev X 34 0 [.ref r, .int a0, .null, .null] [] G).bind (fun q => mc_ev X 35 5 ls (q.1.toList ++ st) q.2)) ∧
  (∀ (x : Int32) (ls st : List Value) (G : mc_H), st.length ≤ 4 → mc_ev X 35 5 ls (.int x :: st) G = mc_ev X 35 8 ls (.int (if 0 ≤ x then x else 0 - x) :: st) G) ∧
  (∀ (v : Int32) (ls : List Value) (G : mc_H), mc_ev X 35 8 ls [.int v] G = some (some (.int v), G)) := ⟨fun v1 x st G => ev_aload_n rfl rfl,
  fun v0 x st G => ev_iload_n rfl rfl,
  fun a0 r ls st G hr hG => ev_virt (As := [.int a0]) rfl rfl rfl rfl rfl rfl hr hG,
  fun x ls st G hr => ev_abs rfl hr,
  fun v ls G => ev_ireturn rfl rfl⟩
theorem e_36 {X : mc_X} : (∀ (v1 v2 v3 v4 : Value) (x : Nat) (st : List Value) (G : mc_H), mc_ev X 36 0 [.ref x, v1, v2, v3, v4] st G = mc_ev X 36 1 [.ref x, v1, v2, v3, v4] (.ref x :: st) G) ∧
  (∀ (v0 v1 v3 v4 : Value) (x : Int32) (st : List Value) (G : mc_H), mc_ev X 36 1 [v0, v1, .int x, v3, v4] st G = mc_ev X 36 2 [v0, v1, .int x, v3, v4] (.int x :: st) G) ∧
  (∀ (v1 v2 v3 v4 : Value) (x : Nat) (st : List Value) (G : mc_H), mc_ev X 36 2 [.ref x, v1, v2, v3, v4] st G = mc_ev X 36 3 [.ref x, v1, v2, v3, v4] (.ref x :: st) G) ∧
  (∀ (r : Nat) (ls st : List Value) (G : mc_H), mc_ev X 36 3 ls (.ref r :: st) G = (mc_getf G r 4 0).bind (fun v => mc_ev X 36 6 ls (v :: st) G)) ∧
  (∀ (r : Nat) (ls st : List Value) (G : mc_H), mc_ev X 36 6 ls (.ref r :: st) G = (mc_getf G r 0 6).bind (fun v => mc_ev X 36 9 ls (v :: st) G)) ∧
  (∀ (v0 v2 v3 v4 : Value) (x : Int32) (st : List Value) (G : mc_H), mc_ev X 36 9 [v0, .int x, v2, v3, v4] st G = mc_ev X 36 10 [v0, .int x, v2, v3, v4] (.int x :: st) G) ∧
  (∀ (i : Int32) (r : Value) (ls st : List Value) (G : mc_H), mc_ev X 36 10 ls (.int i :: r :: st) G = (mc_getA X G 0 r i).bind (fun x => mc_ev X 36 11 ls (.int x :: st) G)) ∧
  (∀ (a0 : Int32) (a1 : Int32) (r : Nat) (ls st : List Value) (G : mc_H), st.length ≤ 4 → mc_cls G r = some 4 → mc_ev X 36 11 ls (.int a1 :: .int a0 :: .ref r :: st) G = (mc_ev X 29 0 [.ref r, .int a0, .int a1] [] G).bind (fun q => mc_ev X 36 14 ls (q.1.toList ++ st) q.2)) ∧
  (∀ (v1 v2 v3 v4 : Value) (x : Nat) (st : List Value) (G : mc_H), mc_ev X 36 14 [.ref x, v1, v2, v3, v4] st G = mc_ev X 36 15 [.ref x, v1, v2, v3, v4] (.ref x :: st) G) ∧
  (∀ (v0 v1 v3 v4 : Value) (x : Int32) (st : List Value) (G : mc_H), mc_ev X 36 15 [v0, v1, .int x, v3, v4] st G = mc_ev X 36 16 [v0, v1, .int x, v3, v4] (.int x :: st) G) ∧
  (∀ (v1 v2 v3 v4 : Value) (x : Nat) (st : List Value) (G : mc_H), mc_ev X 36 16 [.ref x, v1, v2, v3, v4] st G = mc_ev X 36 17 [.ref x, v1, v2, v3, v4] (.ref x :: st) G) ∧
  (∀ (r : Nat) (ls st : List Value) (G : mc_H), mc_ev X 36 17 ls (.ref r :: st) G = (mc_getf G r 4 0).bind (fun v => mc_ev X 36 20 ls (v :: st) G)) ∧
  (∀ (r : Nat) (ls st : List Value) (G : mc_H), mc_ev X 36 20 ls (.ref r :: st) G = (mc_getf G r 0 7).bind (fun v => mc_ev X 36 23 ls (v :: st) G)) ∧
  (∀ (v0 v2 v3 v4 : Value) (x : Int32) (st : List Value) (G : mc_H), mc_ev X 36 23 [v0, .int x, v2, v3, v4] st G = mc_ev X 36 24 [v0, .int x, v2, v3, v4] (.int x :: st) G) ∧
  (∀ (i : Int32) (r : Value) (ls st : List Value) (G : mc_H), mc_ev X 36 24 ls (.int i :: r :: st) G = (mc_getA X G 0 r i).bind (fun x => mc_ev X 36 25 ls (.int x :: st) G)) ∧
  (∀ (a0 : Int32) (a1 : Int32) (r : Nat) (ls st : List Value) (G : mc_H), st.length ≤ 4 → mc_cls G r = some 4 → mc_ev X 36 25 ls (.int a1 :: .int a0 :: .ref r :: st) G = (mc_ev X 29 0 [.ref r, .int a0, .int a1] [] G).bind (fun q => mc_ev X 36 28 ls (q.1.toList ++ st) q.2)) ∧
  (∀ (x y : Int32) (ls st : List Value) (G : mc_H), mc_ev X 36 28 ls (.int y :: .int x :: st) G = if x = y then mc_ev X 36 31 ls st G else mc_ev X 36 35 ls st G) ∧
  (∀ (ls st : List Value) (G : mc_H), mc_ev X 36 31 ls st G = mc_ev X 36 32 ls (.int 1 :: st) G) ∧
  (∀ (ls st : List Value) (G : mc_H), mc_ev X 36 32 ls st G = mc_ev X 36 36 ls st G) ∧
  (∀ (ls st : List Value) (G : mc_H), mc_ev X 36 35 ls st G = mc_ev X 36 36 ls (.int 0 :: st) G) ∧
  (∀ (v0 v1 v2 v3 v4 : Value) (x : Int32) (st : List Value) (G : mc_H), mc_ev X 36 36 [v0, v1, v2, v3, v4] (.int x :: st) G = mc_ev X 36 37 [v0, v1, v2, .int x, v4] st G) ∧
  (∀ (v1 v2 v3 v4 : Value) (x : Nat) (st : List Value) (G : mc_H), mc_ev X 36 37 [.ref x, v1, v2, v3, v4] st G = mc_ev X 36 38 [.ref x, v1, v2, v3, v4] (.ref x :: st) G) ∧
  (∀ (v0 v2 v3 v4 : Value) (x : Int32) (st : List Value) (G : mc_H), mc_ev X 36 38 [v0, .int x, v2, v3, v4] st G = mc_ev X 36 39 [v0, .int x, v2, v3, v4] (.int x :: st) G) ∧
  (∀ (a0 : Int32) (r : Nat) (ls st : List Value) (G : mc_H), st.length ≤ 4 → mc_cls G r = some 4 → mc_ev X 36 39 ls (.int a0 :: .ref r :: st) G = (mc_ev X 34 0 [.ref r, .int a0, .null, .null] [] G).bind (fun q => mc_ev X 36 42 ls (q.1.toList ++ st) q.2)) ∧
  (∀ (v0 v1 v2 v3 v4 : Value) (x : Int32) (st : List Value) (G : mc_H), mc_ev X 36 42 [v0, v1, v2, v3, v4] (.int x :: st) G = mc_ev X 36 44 [v0, v1, v2, v3, .int x] st G) ∧
  (∀ (v0 v1 v2 v4 : Value) (x : Int32) (st : List Value) (G : mc_H), mc_ev X 36 44 [v0, v1, v2, .int x, v4] st G = mc_ev X 36 45 [v0, v1, v2, .int x, v4] (.int x :: st) G) ∧
  (∀ (x : Int32) (ls st : List Value) (G : mc_H), mc_ev X 36 45 ls (.int x :: st) G = if x = 0 then mc_ev X 36 61 ls st G else mc_ev X 36 48 ls st G) ∧
  (∀ (v0 v1 v2 v3 : Value) (x : Int32) (st : List Value) (G : mc_H), mc_ev X 36 48 [v0, v1, v2, v3, .int x] st G = mc_ev X 36 50 [v0, v1, v2, v3, .int x] (.int x :: st) G) ∧
  (∀ (x : Int32) (ls st : List Value) (G : mc_H), mc_ev X 36 50 ls (.int x :: st) G = if x < 0 then mc_ev X 36 53 ls st G else mc_ev X 36 57 ls st G) ∧
  (∀ (ls st : List Value) (G : mc_H), mc_ev X 36 53 ls st G = mc_ev X 36 54 ls (.int 1 :: st) G) ∧
  (∀ (ls st : List Value) (G : mc_H), mc_ev X 36 54 ls st G = mc_ev X 36 71 ls st G) ∧
  (∀ (ls st : List Value) (G : mc_H), mc_ev X 36 57 ls st G = mc_ev X 36 58 ls (.int 0 :: st) G) ∧
  (∀ (ls st : List Value) (G : mc_H), mc_ev X 36 58 ls st G = mc_ev X 36 71 ls st G) ∧
  (∀ (v0 v1 v2 v3 : Value) (x : Int32) (st : List Value) (G : mc_H), mc_ev X 36 61 [v0, v1, v2, v3, .int x] st G = mc_ev X 36 63 [v0, v1, v2, v3, .int x] (.int x :: st) G) ∧
  (∀ (x : Int32) (ls st : List Value) (G : mc_H), mc_ev X 36 63 ls (.int x :: st) G = if 0 < x then mc_ev X 36 66 ls st G else mc_ev X 36 70 ls st G) ∧
  (∀ (ls st : List Value) (G : mc_H), mc_ev X 36 66 ls st G = mc_ev X 36 67 ls (.int 1 :: st) G) ∧
  (∀ (ls st : List Value) (G : mc_H), mc_ev X 36 67 ls st G = mc_ev X 36 71 ls st G) ∧
  (∀ (ls st : List Value) (G : mc_H), mc_ev X 36 70 ls st G = mc_ev X 36 71 ls (.int 0 :: st) G) ∧
  (∀ (v : Int32) (ls : List Value) (G : mc_H), (v = 0 ∨ v = 1) → mc_ev X 36 71 ls [.int v] G = some (some (.int v), G)) := ⟨fun v1 v2 v3 v4 x st G => ev_aload_n rfl rfl,
  fun v0 v1 v3 v4 x st G => ev_iload_n rfl rfl,
  fun v1 v2 v3 v4 x st G => ev_aload_n rfl rfl,
  fun r ls st G => ev_getfield rfl,
  fun r ls st G => ev_getfield rfl,
  fun v0 v2 v3 v4 x st G => ev_iload_n rfl rfl,
  fun i r ls st G => ev_iaload rfl,
  fun a0 a1 r ls st G hr hG => ev_virt (As := [.int a0, .int a1]) rfl rfl rfl rfl rfl rfl hr hG,
  fun v1 v2 v3 v4 x st G => ev_aload_n rfl rfl,
  fun v0 v1 v3 v4 x st G => ev_iload_n rfl rfl,
  fun v1 v2 v3 v4 x st G => ev_aload_n rfl rfl,
  fun r ls st G => ev_getfield rfl,
  fun r ls st G => ev_getfield rfl,
  fun v0 v2 v3 v4 x st G => ev_iload_n rfl rfl,
  fun i r ls st G => ev_iaload rfl,
  fun a0 a1 r ls st G hr hG => ev_virt (As := [.int a0, .int a1]) rfl rfl rfl rfl rfl rfl hr hG,
  fun x y ls st G => ev_br rfl rfl,
  fun ls st G => ev_iconst rfl rfl,
  fun ls st G => ev_goto rfl rfl,
  fun ls st G => ev_iconst rfl rfl,
  fun v0 v1 v2 v3 v4 x st G => ev_istore_n (X := X) (k := 36) (pc := 36) (ls := [v0, v1, v2, v3, v4]) (st := st) (G := G) (j := 3) (x := x) rfl (Nat.le_of_ble_eq_true rfl),
  fun v1 v2 v3 v4 x st G => ev_aload_n rfl rfl,
  fun v0 v2 v3 v4 x st G => ev_iload_n rfl rfl,
  fun a0 r ls st G hr hG => ev_virt (As := [.int a0]) rfl rfl rfl rfl rfl rfl hr hG,
  fun v0 v1 v2 v3 v4 x st G => ev_istore (X := X) (k := 36) (pc := 42) (ls := [v0, v1, v2, v3, v4]) (st := st) (G := G) (j := 4) (x := x) rfl (Nat.le_of_ble_eq_true rfl),
  fun v0 v1 v2 v4 x st G => ev_iload_n rfl rfl,
  fun x ls st G => ev_br rfl rfl,
  fun v0 v1 v2 v3 x st G => ev_iload rfl rfl,
  fun x ls st G => ev_br rfl rfl,
  fun ls st G => ev_iconst rfl rfl,
  fun ls st G => ev_goto rfl rfl,
  fun ls st G => ev_iconst rfl rfl,
  fun ls st G => ev_goto rfl rfl,
  fun v0 v1 v2 v3 x st G => ev_iload rfl rfl,
  fun x ls st G => ev_br rfl rfl,
  fun ls st G => ev_iconst rfl rfl,
  fun ls st G => ev_goto rfl rfl,
  fun ls st G => ev_iconst rfl rfl,
  fun v ls G hv => ev_zreturn rfl rfl hv⟩
theorem h_37_4 {X : mc_X} : ∀ (v0 v1 v2 : Value) (x : Int32) (st : List Value) (G : mc_H), mc_ev X 37 4 [v0, v1, v2, .int x] st G = mc_ev X 37 5 [v0, v1, v2, .int x] (.int x :: st) G := fun v0 v1 v2 x st G => ev_iload_n rfl rfl
theorem e_37 {X : mc_X} : (∀ (ls st : List Value) (G : mc_H), mc_ev X 37 0 ls st G = mc_ev X 37 1 ls (.int 0 :: st) G) ∧
  (∀ (v0 v1 v2 v3 : Value) (x : Int32) (st : List Value) (G : mc_H), mc_ev X 37 1 [v0, v1, v2, v3] (.int x :: st) G = mc_ev X 37 2 [v0, v1, .int x, v3] st G) ∧
  (∀ (ls st : List Value) (G : mc_H), mc_ev X 37 2 ls st G = mc_ev X 37 3 ls (.int 0 :: st) G) ∧
  (∀ (v0 v1 v2 v3 : Value) (x : Int32) (st : List Value) (G : mc_H), mc_ev X 37 3 [v0, v1, v2, v3] (.int x :: st) G = mc_ev X 37 4 [v0, v1, v2, .int x] st G) ∧
  (∀ (v1 v2 v3 : Value) (x : Nat) (st : List Value) (G : mc_H), mc_ev X 37 5 [.ref x, v1, v2, v3] st G = mc_ev X 37 6 [.ref x, v1, v2, v3] (.ref x :: st) G) ∧
  (∀ (r : Nat) (ls st : List Value) (G : mc_H), mc_ev X 37 6 ls (.ref r :: st) G = (mc_getf G r 4 0).bind (fun v => mc_ev X 37 9 ls (v :: st) G)) ∧
  (∀ (r : Nat) (ls st : List Value) (G : mc_H), mc_ev X 37 9 ls (.ref r :: st) G = (mc_getf G r 0 3).bind (fun v => mc_ev X 37 12 ls (v :: st) G)) ∧
  (∀ (x y : Int32) (ls st : List Value) (G : mc_H), mc_ev X 37 12 ls (.int y :: .int x :: st) G = if x < y then mc_ev X 37 15 ls st G else mc_ev X 37 38 ls st G) ∧
  (∀ (v1 v2 v3 : Value) (x : Nat) (st : List Value) (G : mc_H), mc_ev X 37 15 [.ref x, v1, v2, v3] st G = mc_ev X 37 16 [.ref x, v1, v2, v3] (.ref x :: st) G) ∧
  (∀ (v0 v1 v2 : Value) (x : Int32) (st : List Value) (G : mc_H), mc_ev X 37 16 [v0, v1, v2, .int x] st G = mc_ev X 37 17 [v0, v1, v2, .int x] (.int x :: st) G) ∧
  (∀ (v0 v2 v3 : Value) (x : Int32) (st : List Value) (G : mc_H), mc_ev X 37 17 [v0, .int x, v2, v3] st G = mc_ev X 37 18 [v0, .int x, v2, v3] (.int x :: st) G) ∧
  (∀ (a0 : Int32) (a1 : Int32) (r : Nat) (ls st : List Value) (G : mc_H), st.length ≤ 4 → mc_cls G r = some 4 → mc_ev X 37 18 ls (.int a1 :: .int a0 :: .ref r :: st) G = (mc_ev X 36 0 [.ref r, .int a0, .int a1, .null, .null] [] G).bind (fun q => mc_ev X 37 21 ls (q.1.toList ++ st) q.2)) ∧
  (∀ (x : Int32) (ls st : List Value) (G : mc_H), mc_ev X 37 21 ls (.int x :: st) G = if x = 0 then mc_ev X 37 32 ls st G else mc_ev X 37 24 ls st G) ∧
  (∀ (v0 v1 v3 : Value) (x : Int32) (st : List Value) (G : mc_H), mc_ev X 37 24 [v0, v1, .int x, v3] st G = mc_ev X 37 25 [v0, v1, .int x, v3] (.int x :: st) G) ∧
  (∀ (v1 v2 v3 : Value) (x : Nat) (st : List Value) (G : mc_H), mc_ev X 37 25 [.ref x, v1, v2, v3] st G = mc_ev X 37 26 [.ref x, v1, v2, v3] (.ref x :: st) G) ∧
  (∀ (v0 v1 v2 : Value) (x : Int32) (st : List Value) (G : mc_H), mc_ev X 37 26 [v0, v1, v2, .int x] st G = mc_ev X 37 27 [v0, v1, v2, .int x] (.int x :: st) G) ∧
  (∀ (a0 : Int32) (r : Nat) (ls st : List Value) (G : mc_H), st.length ≤ 4 → mc_cls G r = some 4 → mc_ev X 37 27 ls (.int a0 :: .ref r :: st) G = (mc_ev X 35 0 [.ref r, .int a0] [] G).bind (fun q => mc_ev X 37 30 ls (q.1.toList ++ st) q.2)) ∧
  (∀ (x y : Int32) (ls st : List Value) (G : mc_H), mc_ev X 37 30 ls (.int y :: .int x :: st) G = mc_ev X 37 31 ls (.int (x + y) :: st) G) ∧
  (∀ (v0 v1 v2 v3 : Value) (x : Int32) (st : List Value) (G : mc_H), mc_ev X 37 31 [v0, v1, v2, v3] (.int x :: st) G = mc_ev X 37 32 [v0, v1, .int x, v3] st G) ∧
  (∀ (v0 v1 v2 : Value) (x : Int32) (st : List Value) (G : mc_H), mc_ev X 37 32 [v0, v1, v2, .int x] st G = mc_ev X 37 35 [v0, v1, v2, .int (x + 1)] st G) ∧
  (∀ (ls st : List Value) (G : mc_H), mc_ev X 37 35 ls st G = mc_ev X 37 4 ls st G) ∧
  (∀ (v0 v1 v3 : Value) (x : Int32) (st : List Value) (G : mc_H), mc_ev X 37 38 [v0, v1, .int x, v3] st G = mc_ev X 37 39 [v0, v1, .int x, v3] (.int x :: st) G) ∧
  (∀ (v : Int32) (ls : List Value) (G : mc_H), mc_ev X 37 39 ls [.int v] G = some (some (.int v), G)) := ⟨fun ls st G => ev_iconst rfl rfl,
  fun v0 v1 v2 v3 x st G => ev_istore_n (X := X) (k := 37) (pc := 1) (ls := [v0, v1, v2, v3]) (st := st) (G := G) (j := 2) (x := x) rfl (Nat.le_of_ble_eq_true rfl),
  fun ls st G => ev_iconst rfl rfl,
  fun v0 v1 v2 v3 x st G => ev_istore_n (X := X) (k := 37) (pc := 3) (ls := [v0, v1, v2, v3]) (st := st) (G := G) (j := 3) (x := x) rfl (Nat.le_of_ble_eq_true rfl),
  fun v1 v2 v3 x st G => ev_aload_n rfl rfl,
  fun r ls st G => ev_getfield rfl,
  fun r ls st G => ev_getfield rfl,
  fun x y ls st G => ev_br rfl rfl,
  fun v1 v2 v3 x st G => ev_aload_n rfl rfl,
  fun v0 v1 v2 x st G => ev_iload_n rfl rfl,
  fun v0 v2 v3 x st G => ev_iload_n rfl rfl,
  fun a0 a1 r ls st G hr hG => ev_virt (As := [.int a0, .int a1]) rfl rfl rfl rfl rfl rfl hr hG,
  fun x ls st G => ev_br rfl rfl,
  fun v0 v1 v3 x st G => ev_iload_n rfl rfl,
  fun v1 v2 v3 x st G => ev_aload_n rfl rfl,
  fun v0 v1 v2 x st G => ev_iload_n rfl rfl,
  fun a0 r ls st G hr hG => ev_virt (As := [.int a0]) rfl rfl rfl rfl rfl rfl hr hG,
  fun x y ls st G => ev_iadd rfl,
  fun v0 v1 v2 v3 x st G => ev_istore_n (X := X) (k := 37) (pc := 31) (ls := [v0, v1, v2, v3]) (st := st) (G := G) (j := 2) (x := x) rfl (Nat.le_of_ble_eq_true rfl),
  fun v0 v1 v2 x st G => ev_iinc (X := X) (k := 37) (pc := 32) (ls := [v0, v1, v2, .int x]) (st := st) (G := G) (j := 3) (n := 1) (x := x) (v := 1) rfl rfl rfl,
  fun ls st G => ev_goto rfl rfl,
  fun v0 v1 v3 x st G => ev_iload_n rfl rfl,
  fun v ls G => ev_ireturn rfl rfl⟩
theorem e_38 {X : mc_X} : (∀ (x : Nat) (st : List Value) (G : mc_H), mc_ev X 38 0 [.ref x] st G = mc_ev X 38 1 [.ref x] (.ref x :: st) G) ∧
  (∀ (x : Nat) (st : List Value) (G : mc_H), mc_ev X 38 1 [.ref x] st G = mc_ev X 38 2 [.ref x] (.ref x :: st) G) ∧
  (∀ (r : Nat) (ls st : List Value) (G : mc_H), st.length ≤ 4 → mc_cls G r = some 4 → mc_ev X 38 2 ls (.ref r :: st) G = (mc_ev X 33 0 [.ref r, .null] [] G).bind (fun q => mc_ev X 38 5 ls (q.1.toList ++ st) q.2)) ∧
  (∀ (a0 : Int32) (r : Nat) (ls st : List Value) (G : mc_H), st.length ≤ 4 → mc_cls G r = some 4 → mc_ev X 38 5 ls (.int a0 :: .ref r :: st) G = (mc_ev X 37 0 [.ref r, .int a0, .null, .null] [] G).bind (fun q => mc_ev X 38 8 ls (q.1.toList ++ st) q.2)) ∧
  (∀ (v : Int32) (ls : List Value) (G : mc_H), mc_ev X 38 8 ls [.int v] G = some (some (.int v), G)) := ⟨fun  x st G => ev_aload_n rfl rfl,
  fun  x st G => ev_aload_n rfl rfl,
  fun r ls st G hr hG => ev_virt (As := []) rfl rfl rfl rfl rfl rfl hr hG,
  fun a0 r ls st G hr hG => ev_virt (As := [.int a0]) rfl rfl rfl rfl rfl rfl hr hG,
  fun v ls G => ev_ireturn rfl rfl⟩
theorem e_39 {X : mc_X} : (∀ (v1 v2 : Value) (x : Nat) (st : List Value) (G : mc_H), mc_ev X 39 0 [.ref x, v1, v2] st G = mc_ev X 39 1 [.ref x, v1, v2] (.ref x :: st) G) ∧
  (∀ (r : Nat) (ls st : List Value) (G : mc_H), mc_ev X 39 1 ls (.ref r :: st) G = (mc_getf G r 4 0).bind (fun v => mc_ev X 39 4 ls (v :: st) G)) ∧
  (∀ (r : Nat) (ls st : List Value) (G : mc_H), mc_ev X 39 4 ls (.ref r :: st) G = (mc_getf G r 0 6).bind (fun v => mc_ev X 39 7 ls (v :: st) G)) ∧
  (∀ (v0 v2 : Value) (x : Int32) (st : List Value) (G : mc_H), mc_ev X 39 7 [v0, .int x, v2] st G = mc_ev X 39 8 [v0, .int x, v2] (.int x :: st) G) ∧
  (∀ (i : Int32) (r : Value) (ls st : List Value) (G : mc_H), mc_ev X 39 8 ls (.int i :: r :: st) G = (mc_getA X G 0 r i).bind (fun x => mc_ev X 39 9 ls (.int x :: st) G)) ∧
  (∀ (v0 v1 : Value) (x : Int32) (st : List Value) (G : mc_H), mc_ev X 39 9 [v0, v1, .int x] st G = mc_ev X 39 10 [v0, v1, .int x] (.int x :: st) G) ∧
  (∀ (x y : Int32) (ls st : List Value) (G : mc_H), mc_ev X 39 10 ls (.int y :: .int x :: st) G = if x = y then mc_ev X 39 26 ls st G else mc_ev X 39 13 ls st G) ∧
  (∀ (v1 v2 : Value) (x : Nat) (st : List Value) (G : mc_H), mc_ev X 39 13 [.ref x, v1, v2] st G = mc_ev X 39 14 [.ref x, v1, v2] (.ref x :: st) G) ∧
  (∀ (r : Nat) (ls st : List Value) (G : mc_H), mc_ev X 39 14 ls (.ref r :: st) G = (mc_getf G r 4 0).bind (fun v => mc_ev X 39 17 ls (v :: st) G)) ∧
  (∀ (r : Nat) (ls st : List Value) (G : mc_H), mc_ev X 39 17 ls (.ref r :: st) G = (mc_getf G r 0 7).bind (fun v => mc_ev X 39 20 ls (v :: st) G)) ∧
  (∀ (v0 v2 : Value) (x : Int32) (st : List Value) (G : mc_H), mc_ev X 39 20 [v0, .int x, v2] st G = mc_ev X 39 21 [v0, .int x, v2] (.int x :: st) G) ∧
  (∀ (i : Int32) (r : Value) (ls st : List Value) (G : mc_H), mc_ev X 39 21 ls (.int i :: r :: st) G = (mc_getA X G 0 r i).bind (fun x => mc_ev X 39 22 ls (.int x :: st) G)) ∧
  (∀ (v0 v1 : Value) (x : Int32) (st : List Value) (G : mc_H), mc_ev X 39 22 [v0, v1, .int x] st G = mc_ev X 39 23 [v0, v1, .int x] (.int x :: st) G) ∧
  (∀ (x y : Int32) (ls st : List Value) (G : mc_H), mc_ev X 39 23 ls (.int y :: .int x :: st) G = if x = y then mc_ev X 39 26 ls st G else mc_ev X 39 30 ls st G) ∧
  (∀ (ls st : List Value) (G : mc_H), mc_ev X 39 26 ls st G = mc_ev X 39 27 ls (.int 1 :: st) G) ∧
  (∀ (ls st : List Value) (G : mc_H), mc_ev X 39 27 ls st G = mc_ev X 39 31 ls st G) ∧
  (∀ (ls st : List Value) (G : mc_H), mc_ev X 39 30 ls st G = mc_ev X 39 31 ls (.int 0 :: st) G) ∧
  (∀ (v : Int32) (ls : List Value) (G : mc_H), (v = 0 ∨ v = 1) → mc_ev X 39 31 ls [.int v] G = some (some (.int v), G)) := ⟨fun v1 v2 x st G => ev_aload_n rfl rfl,
  fun r ls st G => ev_getfield rfl,
  fun r ls st G => ev_getfield rfl,
  fun v0 v2 x st G => ev_iload_n rfl rfl,
  fun i r ls st G => ev_iaload rfl,
  fun v0 v1 x st G => ev_iload_n rfl rfl,
  fun x y ls st G => ev_br rfl rfl,
  fun v1 v2 x st G => ev_aload_n rfl rfl,
  fun r ls st G => ev_getfield rfl,
  fun r ls st G => ev_getfield rfl,
  fun v0 v2 x st G => ev_iload_n rfl rfl,
  fun i r ls st G => ev_iaload rfl,
  fun v0 v1 x st G => ev_iload_n rfl rfl,
  fun x y ls st G => ev_br rfl rfl,
  fun ls st G => ev_iconst rfl rfl,
  fun ls st G => ev_goto rfl rfl,
  fun ls st G => ev_iconst rfl rfl,
  fun v ls G hv => ev_zreturn rfl rfl hv⟩
theorem h_40_20 {X : mc_X} : ∀ (v0 v1 v2 v3 : Value) (x : Int32) (st : List Value) (G : mc_H), mc_ev X 40 20 [v0, v1, v2, v3, .int x] st G = mc_ev X 40 22 [v0, v1, v2, v3, .int x] (.int x :: st) G := fun v0 v1 v2 v3 x st G => ev_iload rfl rfl
theorem e_40 {X : mc_X} : (∀ (v1 v2 v3 v4 : Value) (x : Nat) (st : List Value) (G : mc_H), mc_ev X 40 0 [.ref x, v1, v2, v3, v4] st G = mc_ev X 40 1 [.ref x, v1, v2, v3, v4] (.ref x :: st) G) ∧
  (∀ (v0 v2 v3 v4 : Value) (x : Int32) (st : List Value) (G : mc_H), mc_ev X 40 1 [v0, .int x, v2, v3, v4] st G = mc_ev X 40 2 [v0, .int x, v2, v3, v4] (.int x :: st) G) ∧
  (∀ (a0 : Int32) (r : Nat) (ls st : List Value) (G : mc_H), st.length ≤ 4 → mc_cls G r = some 4 → mc_ev X 40 2 ls (.int a0 :: .ref r :: st) G = (mc_ev X 31 0 [.ref r, .int a0, .null] [] G).bind (fun q => mc_ev X 40 5 ls (q.1.toList ++ st) q.2)) ∧
  (∀ (x : Int32) (ls st : List Value) (G : mc_H), mc_ev X 40 5 ls (.int x :: st) G = if x = 0 then mc_ev X 40 10 ls st G else mc_ev X 40 8 ls st G) ∧
  (∀ (ls st : List Value) (G : mc_H), mc_ev X 40 8 ls st G = mc_ev X 40 9 ls (.int 0 :: st) G) ∧
  (∀ (v : Int32) (ls : List Value) (G : mc_H), mc_ev X 40 9 ls [.int v] G = some (some (.int v), G)) ∧
  (∀ (v1 v2 v3 v4 : Value) (x : Nat) (st : List Value) (G : mc_H), mc_ev X 40 10 [.ref x, v1, v2, v3, v4] st G = mc_ev X 40 11 [.ref x, v1, v2, v3, v4] (.ref x :: st) G) ∧
  (∀ (r : Nat) (ls st : List Value) (G : mc_H), st.length ≤ 4 → mc_cls G r = some 4 → mc_ev X 40 11 ls (.ref r :: st) G = (mc_ev X 33 0 [.ref r, .null] [] G).bind (fun q => mc_ev X 40 14 ls (q.1.toList ++ st) q.2)) ∧
  (∀ (v0 v1 v2 v3 v4 : Value) (x : Int32) (st : List Value) (G : mc_H), mc_ev X 40 14 [v0, v1, v2, v3, v4] (.int x :: st) G = mc_ev X 40 15 [v0, v1, .int x, v3, v4] st G) ∧
  (∀ (ls st : List Value) (G : mc_H), mc_ev X 40 15 ls st G = mc_ev X 40 16 ls (.int 0 :: st) G) ∧
  (∀ (v0 v1 v2 v3 v4 : Value) (x : Int32) (st : List Value) (G : mc_H), mc_ev X 40 16 [v0, v1, v2, v3, v4] (.int x :: st) G = mc_ev X 40 17 [v0, v1, v2, .int x, v4] st G) ∧
  (∀ (ls st : List Value) (G : mc_H), mc_ev X 40 17 ls st G = mc_ev X 40 18 ls (.int 0 :: st) G) ∧
  (∀ (v0 v1 v2 v3 v4 : Value) (x : Int32) (st : List Value) (G : mc_H), mc_ev X 40 18 [v0, v1, v2, v3, v4] (.int x :: st) G = mc_ev X 40 20 [v0, v1, v2, v3, .int x] st G) ∧
  (∀ (v1 v2 v3 v4 : Value) (x : Nat) (st : List Value) (G : mc_H), mc_ev X 40 22 [.ref x, v1, v2, v3, v4] st G = mc_ev X 40 23 [.ref x, v1, v2, v3, v4] (.ref x :: st) G) ∧
  (∀ (r : Nat) (ls st : List Value) (G : mc_H), mc_ev X 40 23 ls (.ref r :: st) G = (mc_getf G r 4 0).bind (fun v => mc_ev X 40 26 ls (v :: st) G)) ∧
  (∀ (r : Nat) (ls st : List Value) (G : mc_H), mc_ev X 40 26 ls (.ref r :: st) G = (mc_getf G r 0 3).bind (fun v => mc_ev X 40 29 ls (v :: st) G)) ∧
  (∀ (x y : Int32) (ls st : List Value) (G : mc_H), mc_ev X 40 29 ls (.int y :: .int x :: st) G = if x < y then mc_ev X 40 32 ls st G else mc_ev X 40 77 ls st G) ∧
  (∀ (v1 v2 v3 v4 : Value) (x : Nat) (st : List Value) (G : mc_H), mc_ev X 40 32 [.ref x, v1, v2, v3, v4] st G = mc_ev X 40 33 [.ref x, v1, v2, v3, v4] (.ref x :: st) G) ∧
  (∀ (v0 v1 v2 v3 : Value) (x : Int32) (st : List Value) (G : mc_H), mc_ev X 40 33 [v0, v1, v2, v3, .int x] st G = mc_ev X 40 35 [v0, v1, v2, v3, .int x] (.int x :: st) G) ∧
  (∀ (v0 v2 v3 v4 : Value) (x : Int32) (st : List Value) (G : mc_H), mc_ev X 40 35 [v0, .int x, v2, v3, v4] st G = mc_ev X 40 36 [v0, .int x, v2, v3, v4] (.int x :: st) G) ∧
  (∀ (a0 : Int32) (a1 : Int32) (r : Nat) (ls st : List Value) (G : mc_H), st.length ≤ 4 → mc_cls G r = some 4 → mc_ev X 40 36 ls (.int a1 :: .int a0 :: .ref r :: st) G = (mc_ev X 39 0 [.ref r, .int a0, .int a1] [] G).bind (fun q => mc_ev X 40 39 ls (q.1.toList ++ st) q.2)) ∧
  (∀ (x : Int32) (ls st : List Value) (G : mc_H), mc_ev X 40 39 ls (.int x :: st) G = if x = 0 then mc_ev X 40 71 ls st G else mc_ev X 40 42 ls st G) ∧
  (∀ (v0 v1 v2 v4 : Value) (x : Int32) (st : List Value) (G : mc_H), mc_ev X 40 42 [v0, v1, v2, .int x, v4] st G = mc_ev X 40 43 [v0, v1, v2, .int x, v4] (.int x :: st) G) ∧
  (∀ (v1 v2 v3 v4 : Value) (x : Nat) (st : List Value) (G : mc_H), mc_ev X 40 43 [.ref x, v1, v2, v3, v4] st G = mc_ev X 40 44 [.ref x, v1, v2, v3, v4] (.ref x :: st) G) ∧
  (∀ (v0 v1 v2 v3 : Value) (x : Int32) (st : List Value) (G : mc_H), mc_ev X 40 44 [v0, v1, v2, v3, .int x] st G = mc_ev X 40 46 [v0, v1, v2, v3, .int x] (.int x :: st) G) ∧
  (∀ (v0 v1 v3 v4 : Value) (x : Int32) (st : List Value) (G : mc_H), mc_ev X 40 46 [v0, v1, .int x, v3, v4] st G = mc_ev X 40 47 [v0, v1, .int x, v3, v4] (.int x :: st) G) ∧
  (∀ (a0 : Int32) (a1 : Int32) (r : Nat) (ls st : List Value) (G : mc_H), st.length ≤ 4 → mc_cls G r = some 4 → mc_ev X 40 47 ls (.int a1 :: .int a0 :: .ref r :: st) G = (mc_ev X 36 0 [.ref r, .int a0, .int a1, .null, .null] [] G).bind (fun q => mc_ev X 40 50 ls (q.1.toList ++ st) q.2)) ∧
  (∀ (x : Int32) (ls st : List Value) (G : mc_H), mc_ev X 40 50 ls (.int x :: st) G = if x = 0 then mc_ev X 40 63 ls st G else mc_ev X 40 53 ls st G) ∧
  (∀ (v1 v2 v3 v4 : Value) (x : Nat) (st : List Value) (G : mc_H), mc_ev X 40 53 [.ref x, v1, v2, v3, v4] st G = mc_ev X 40 54 [.ref x, v1, v2, v3, v4] (.ref x :: st) G) ∧
  (∀ (v0 v1 v2 v3 : Value) (x : Int32) (st : List Value) (G : mc_H), mc_ev X 40 54 [v0, v1, v2, v3, .int x] st G = mc_ev X 40 56 [v0, v1, v2, v3, .int x] (.int x :: st) G) ∧
  (∀ (a0 : Int32) (r : Nat) (ls st : List Value) (G : mc_H), st.length ≤ 4 → mc_cls G r = some 4 → mc_ev X 40 56 ls (.int a0 :: .ref r :: st) G = (mc_ev X 35 0 [.ref r, .int a0] [] G).bind (fun q => mc_ev X 40 59 ls (q.1.toList ++ st) q.2)) ∧
  (∀ (x : Int32) (ls st : List Value) (G : mc_H), mc_ev X 40 59 ls (.int x :: st) G = mc_ev X 40 60 ls (.int (-x) :: st) G) ∧
  (∀ (ls st : List Value) (G : mc_H), mc_ev X 40 60 ls st G = mc_ev X 40 69 ls st G) ∧
  (∀ (v1 v2 v3 v4 : Value) (x : Nat) (st : List Value) (G : mc_H), mc_ev X 40 63 [.ref x, v1, v2, v3, v4] st G = mc_ev X 40 64 [.ref x, v1, v2, v3, v4] (.ref x :: st) G) ∧
  (∀ (v0 v1 v2 v3 : Value) (x : Int32) (st : List Value) (G : mc_H), mc_ev X 40 64 [v0, v1, v2, v3, .int x] st G = mc_ev X 40 66 [v0, v1, v2, v3, .int x] (.int x :: st) G) ∧
  (∀ (a0 : Int32) (r : Nat) (ls st : List Value) (G : mc_H), st.length ≤ 4 → mc_cls G r = some 4 → mc_ev X 40 66 ls (.int a0 :: .ref r :: st) G = (mc_ev X 35 0 [.ref r, .int a0] [] G).bind (fun q => mc_ev X 40 69 ls (q.1.toList ++ st) q.2)) ∧
  (∀ (x y : Int32) (ls st : List Value) (G : mc_H), mc_ev X 40 69 ls (.int y :: .int x :: st) G = mc_ev X 40 70 ls (.int (x + y) :: st) G) ∧
  (∀ (v0 v1 v2 v3 v4 : Value) (x : Int32) (st : List Value) (G : mc_H), mc_ev X 40 70 [v0, v1, v2, v3, v4] (.int x :: st) G = mc_ev X 40 71 [v0, v1, v2, .int x, v4] st G) ∧
  (∀ (v0 v1 v2 v3 : Value) (x : Int32) (st : List Value) (G : mc_H), mc_ev X 40 71 [v0, v1, v2, v3, .int x] st G = mc_ev X 40 74 [v0, v1, v2, v3, .int (x + 1)] st G) ∧
  (∀ (ls st : List Value) (G : mc_H), mc_ev X 40 74 ls st G = mc_ev X 40 20 ls st G) ∧
  (∀ (v0 v1 v2 v4 : Value) (x : Int32) (st : List Value) (G : mc_H), mc_ev X 40 77 [v0, v1, v2, .int x, v4] st G = mc_ev X 40 78 [v0, v1, v2, .int x, v4] (.int x :: st) G) ∧
  (∀ (v : Int32) (ls : List Value) (G : mc_H), mc_ev X 40 78 ls [.int v] G = some (some (.int v), G)) := ⟨fun v1 v2 v3 v4 x st G => ev_aload_n rfl rfl,
  fun v0 v2 v3 v4 x st G => ev_iload_n rfl rfl,
  fun a0 r ls st G hr hG => ev_virt (As := [.int a0]) rfl rfl rfl rfl rfl rfl hr hG,
  fun x ls st G => ev_br rfl rfl,
  fun ls st G => ev_iconst rfl rfl,
  fun v ls G => ev_ireturn rfl rfl,
  fun v1 v2 v3 v4 x st G => ev_aload_n rfl rfl,
  fun r ls st G hr hG => ev_virt (As := []) rfl rfl rfl rfl rfl rfl hr hG,
  fun v0 v1 v2 v3 v4 x st G => ev_istore_n (X := X) (k := 40) (pc := 14) (ls := [v0, v1, v2, v3, v4]) (st := st) (G := G) (j := 2) (x := x) rfl (Nat.le_of_ble_eq_true rfl),
  fun ls st G => ev_iconst rfl rfl,
  fun v0 v1 v2 v3 v4 x st G => ev_istore_n (X := X) (k := 40) (pc := 16) (ls := [v0, v1, v2, v3, v4]) (st := st) (G := G) (j := 3) (x := x) rfl (Nat.le_of_ble_eq_true rfl),
  fun ls st G => ev_iconst rfl rfl,
  fun v0 v1 v2 v3 v4 x st G => ev_istore (X := X) (k := 40) (pc := 18) (ls := [v0, v1, v2, v3, v4]) (st := st) (G := G) (j := 4) (x := x) rfl (Nat.le_of_ble_eq_true rfl),
  fun v1 v2 v3 v4 x st G => ev_aload_n rfl rfl,
  fun r ls st G => ev_getfield rfl,
  fun r ls st G => ev_getfield rfl,
  fun x y ls st G => ev_br rfl rfl,
  fun v1 v2 v3 v4 x st G => ev_aload_n rfl rfl,
  fun v0 v1 v2 v3 x st G => ev_iload rfl rfl,
  fun v0 v2 v3 v4 x st G => ev_iload_n rfl rfl,
  fun a0 a1 r ls st G hr hG => ev_virt (As := [.int a0, .int a1]) rfl rfl rfl rfl rfl rfl hr hG,
  fun x ls st G => ev_br rfl rfl,
  fun v0 v1 v2 v4 x st G => ev_iload_n rfl rfl,
  fun v1 v2 v3 v4 x st G => ev_aload_n rfl rfl,
  fun v0 v1 v2 v3 x st G => ev_iload rfl rfl,
  fun v0 v1 v3 v4 x st G => ev_iload_n rfl rfl,
  fun a0 a1 r ls st G hr hG => ev_virt (As := [.int a0, .int a1]) rfl rfl rfl rfl rfl rfl hr hG,
  fun x ls st G => ev_br rfl rfl,
  fun v1 v2 v3 v4 x st G => ev_aload_n rfl rfl,
  fun v0 v1 v2 v3 x st G => ev_iload rfl rfl,
  fun a0 r ls st G hr hG => ev_virt (As := [.int a0]) rfl rfl rfl rfl rfl rfl hr hG,
  fun x ls st G => ev_ineg rfl,
  fun ls st G => ev_goto rfl rfl,
  fun v1 v2 v3 v4 x st G => ev_aload_n rfl rfl,
  fun v0 v1 v2 v3 x st G => ev_iload rfl rfl,
  fun a0 r ls st G hr hG => ev_virt (As := [.int a0]) rfl rfl rfl rfl rfl rfl hr hG,
  fun x y ls st G => ev_iadd rfl,
  fun v0 v1 v2 v3 v4 x st G => ev_istore_n (X := X) (k := 40) (pc := 70) (ls := [v0, v1, v2, v3, v4]) (st := st) (G := G) (j := 3) (x := x) rfl (Nat.le_of_ble_eq_true rfl),
  fun v0 v1 v2 v3 x st G => ev_iinc (X := X) (k := 40) (pc := 71) (ls := [v0, v1, v2, v3, .int x]) (st := st) (G := G) (j := 4) (n := 1) (x := x) (v := 1) rfl rfl rfl,
  fun ls st G => ev_goto rfl rfl,
  fun v0 v1 v2 v4 x st G => ev_iload_n rfl rfl,
  fun v ls G => ev_ireturn rfl rfl⟩
theorem h_41_2 {X : mc_X} : ∀ (v0 : Value) (x : Int32) (st : List Value) (G : mc_H), mc_ev X 41 2 [v0, .int x] st G = mc_ev X 41 3 [v0, .int x] (.int x :: st) G := fun v0 x st G => ev_iload_n rfl rfl
theorem e_41 {X : mc_X} : (∀ (ls st : List Value) (G : mc_H), mc_ev X 41 0 ls st G = mc_ev X 41 1 ls (.int 0 :: st) G) ∧
  (∀ (v0 v1 : Value) (x : Int32) (st : List Value) (G : mc_H), mc_ev X 41 1 [v0, v1] (.int x :: st) G = mc_ev X 41 2 [v0, .int x] st G) ∧
  (∀ (v1 : Value) (x : Nat) (st : List Value) (G : mc_H), mc_ev X 41 3 [.ref x, v1] st G = mc_ev X 41 4 [.ref x, v1] (.ref x :: st) G) ∧
  (∀ (r : Nat) (ls st : List Value) (G : mc_H), mc_ev X 41 4 ls (.ref r :: st) G = (mc_getf G r 4 0).bind (fun v => mc_ev X 41 7 ls (v :: st) G)) ∧
  (∀ (r : Nat) (ls st : List Value) (G : mc_H), mc_ev X 41 7 ls (.ref r :: st) G = (mc_getf G r 0 2).bind (fun v => mc_ev X 41 10 ls (v :: st) G)) ∧
  (∀ (x y : Int32) (ls st : List Value) (G : mc_H), mc_ev X 41 10 ls (.int y :: .int x :: st) G = if x < y then mc_ev X 41 13 ls st G else mc_ev X 41 29 ls st G) ∧
  (∀ (v1 : Value) (x : Nat) (st : List Value) (G : mc_H), mc_ev X 41 13 [.ref x, v1] st G = mc_ev X 41 14 [.ref x, v1] (.ref x :: st) G) ∧
  (∀ (v0 : Value) (x : Int32) (st : List Value) (G : mc_H), mc_ev X 41 14 [v0, .int x] st G = mc_ev X 41 15 [v0, .int x] (.int x :: st) G) ∧
  (∀ (a0 : Int32) (r : Nat) (ls st : List Value) (G : mc_H), st.length ≤ 4 → mc_cls G r = some 4 → mc_ev X 41 15 ls (.int a0 :: .ref r :: st) G = (mc_ev X 40 0 [.ref r, .int a0, .null, .null, .null] [] G).bind (fun q => mc_ev X 41 18 ls (q.1.toList ++ st) q.2)) ∧
  (∀ (x : Int32) (ls st : List Value) (G : mc_H), mc_ev X 41 18 ls (.int x :: st) G = if x < 0 then mc_ev X 41 21 ls st G else mc_ev X 41 23 ls st G) ∧
  (∀ (v0 : Value) (x : Int32) (st : List Value) (G : mc_H), mc_ev X 41 21 [v0, .int x] st G = mc_ev X 41 22 [v0, .int x] (.int x :: st) G) ∧
  (∀ (v : Int32) (ls : List Value) (G : mc_H), mc_ev X 41 22 ls [.int v] G = some (some (.int v), G)) ∧
  (∀ (v0 : Value) (x : Int32) (st : List Value) (G : mc_H), mc_ev X 41 23 [v0, .int x] st G = mc_ev X 41 26 [v0, .int (x + 1)] st G) ∧
  (∀ (ls st : List Value) (G : mc_H), mc_ev X 41 26 ls st G = mc_ev X 41 2 ls st G) ∧
  (∀ (ls st : List Value) (G : mc_H), mc_ev X 41 29 ls st G = mc_ev X 41 31 ls (.int (-9) :: st) G) ∧
  (∀ (v : Int32) (ls : List Value) (G : mc_H), mc_ev X 41 31 ls [.int v] G = some (some (.int v), G)) := ⟨fun ls st G => ev_iconst rfl rfl,
  fun v0 v1 x st G => ev_istore_n (X := X) (k := 41) (pc := 1) (ls := [v0, v1]) (st := st) (G := G) (j := 1) (x := x) rfl (Nat.le_of_ble_eq_true rfl),
  fun v1 x st G => ev_aload_n rfl rfl,
  fun r ls st G => ev_getfield rfl,
  fun r ls st G => ev_getfield rfl,
  fun x y ls st G => ev_br rfl rfl,
  fun v1 x st G => ev_aload_n rfl rfl,
  fun v0 x st G => ev_iload_n rfl rfl,
  fun a0 r ls st G hr hG => ev_virt (As := [.int a0]) rfl rfl rfl rfl rfl rfl hr hG,
  fun x ls st G => ev_br rfl rfl,
  fun v0 x st G => ev_iload_n rfl rfl,
  fun v ls G => ev_ireturn rfl rfl,
  fun v0 x st G => ev_iinc (X := X) (k := 41) (pc := 23) (ls := [v0, .int x]) (st := st) (G := G) (j := 1) (n := 1) (x := x) (v := 1) rfl rfl rfl,
  fun ls st G => ev_goto rfl rfl,
  fun ls st G => ev_bipush rfl rfl,
  fun v ls G => ev_ireturn rfl rfl⟩
theorem e_42 {X : mc_X} : (∀ (v1 : Value) (x : Nat) (st : List Value) (G : mc_H), mc_ev X 42 0 [.ref x, v1] st G = mc_ev X 42 1 [.ref x, v1] (.ref x :: st) G) ∧
  (∀ (r : Nat) (ls st : List Value) (G : mc_H), mc_ev X 42 1 ls (.ref r :: st) G = (mc_getf G r 4 1).bind (fun v => mc_ev X 42 4 ls (v :: st) G)) ∧
  (∀ (x : Nat) (ls st : List Value) (G : mc_H), mc_ev X 42 4 ls (.ref x :: st) G = mc_ev X 42 5 ls (.ref x :: .ref x :: st) G) ∧
  (∀ (r : Nat) (ls st : List Value) (G : mc_H), mc_ev X 42 5 ls (.ref r :: st) G = (mc_getf G r 5 0).bind (fun v => mc_ev X 42 8 ls (v :: st) G)) ∧
  (∀ (v1 : Value) (x : Nat) (st : List Value) (G : mc_H), mc_ev X 42 8 [.ref x, v1] st G = mc_ev X 42 9 [.ref x, v1] (.ref x :: st) G) ∧
  (∀ (v0 : Value) (x : Int32) (st : List Value) (G : mc_H), mc_ev X 42 9 [v0, .int x] st G = mc_ev X 42 10 [v0, .int x] (.int x :: st) G) ∧
  (∀ (a0 : Int32) (r : Nat) (ls st : List Value) (G : mc_H), st.length ≤ 4 → mc_cls G r = some 4 → mc_ev X 42 10 ls (.int a0 :: .ref r :: st) G = (mc_ev X 28 0 [.ref r, .int a0] [] G).bind (fun q => mc_ev X 42 13 ls (q.1.toList ++ st) q.2)) ∧
  (∀ (x y : Int32) (ls st : List Value) (G : mc_H), mc_ev X 42 13 ls (.int y :: .int x :: st) G = mc_ev X 42 14 ls (.int (x ^^^ y) :: st) G) ∧
  (∀ (v : Value) (r : Nat) (ls st : List Value) (G : mc_H), mc_ev X 42 14 ls (v :: .ref r :: st) G = (mc_setf G r 5 0 v).bind (fun G' => mc_ev X 42 17 ls st G')) ∧
  (∀ (ls : List Value) (G : mc_H), mc_ev X 42 17 ls [] G = some (none, G)) := ⟨fun v1 x st G => ev_aload_n rfl rfl,
  fun r ls st G => ev_getfield rfl,
  fun x ls st G => ev_dup rfl,
  fun r ls st G => ev_getfield rfl,
  fun v1 x st G => ev_aload_n rfl rfl,
  fun v0 x st G => ev_iload_n rfl rfl,
  fun a0 r ls st G hr hG => ev_virt (As := [.int a0]) rfl rfl rfl rfl rfl rfl hr hG,
  fun x y ls st G => ev_ixor rfl,
  fun v r ls st G => ev_putfield rfl,
  fun ls G => ev_return rfl rfl⟩
theorem h_43_2 {X : mc_X} : ∀ (v0 v1 : Value) (x : Int32) (st : List Value) (G : mc_H), mc_ev X 43 2 [v0, v1, .int x] st G = mc_ev X 43 3 [v0, v1, .int x] (.int x :: st) G := fun v0 v1 x st G => ev_iload_n rfl rfl
theorem e_43 {X : mc_X} : (∀ (ls st : List Value) (G : mc_H), mc_ev X 43 0 ls st G = mc_ev X 43 1 ls (.int 0 :: st) G) ∧
  (∀ (v0 v1 v2 : Value) (x : Int32) (st : List Value) (G : mc_H), mc_ev X 43 1 [v0, v1, v2] (.int x :: st) G = mc_ev X 43 2 [v0, v1, .int x] st G) ∧
  (∀ (v1 v2 : Value) (x : Nat) (st : List Value) (G : mc_H), mc_ev X 43 3 [.ref x, v1, v2] st G = mc_ev X 43 4 [.ref x, v1, v2] (.ref x :: st) G) ∧
  (∀ (r : Nat) (ls st : List Value) (G : mc_H), mc_ev X 43 4 ls (.ref r :: st) G = (mc_getf G r 4 0).bind (fun v => mc_ev X 43 7 ls (v :: st) G)) ∧
  (∀ (r : Nat) (ls st : List Value) (G : mc_H), mc_ev X 43 7 ls (.ref r :: st) G = (mc_getf G r 0 3).bind (fun v => mc_ev X 43 10 ls (v :: st) G)) ∧
  (∀ (x y : Int32) (ls st : List Value) (G : mc_H), mc_ev X 43 10 ls (.int y :: .int x :: st) G = if x < y then mc_ev X 43 13 ls st G else mc_ev X 43 47 ls st G) ∧
  (∀ (v1 v2 : Value) (x : Nat) (st : List Value) (G : mc_H), mc_ev X 43 13 [.ref x, v1, v2] st G = mc_ev X 43 14 [.ref x, v1, v2] (.ref x :: st) G) ∧
  (∀ (v0 v1 : Value) (x : Int32) (st : List Value) (G : mc_H), mc_ev X 43 14 [v0, v1, .int x] st G = mc_ev X 43 15 [v0, v1, .int x] (.int x :: st) G) ∧
  (∀ (v0 v2 : Value) (x : Int32) (st : List Value) (G : mc_H), mc_ev X 43 15 [v0, .int x, v2] st G = mc_ev X 43 16 [v0, .int x, v2] (.int x :: st) G) ∧
  (∀ (a0 : Int32) (a1 : Int32) (r : Nat) (ls st : List Value) (G : mc_H), st.length ≤ 4 → mc_cls G r = some 4 → mc_ev X 43 16 ls (.int a1 :: .int a0 :: .ref r :: st) G = (mc_ev X 39 0 [.ref r, .int a0, .int a1] [] G).bind (fun q => mc_ev X 43 19 ls (q.1.toList ++ st) q.2)) ∧
  (∀ (x : Int32) (ls st : List Value) (G : mc_H), mc_ev X 43 19 ls (.int x :: st) G = if x = 0 then mc_ev X 43 41 ls st G else mc_ev X 43 22 ls st G) ∧
  (∀ (v1 v2 : Value) (x : Nat) (st : List Value) (G : mc_H), mc_ev X 43 22 [.ref x, v1, v2] st G = mc_ev X 43 23 [.ref x, v1, v2] (.ref x :: st) G) ∧
  (∀ (r : Nat) (ls st : List Value) (G : mc_H), mc_ev X 43 23 ls (.ref r :: st) G = (mc_getf G r 4 1).bind (fun v => mc_ev X 43 26 ls (v :: st) G)) ∧
  (∀ (r : Nat) (ls st : List Value) (G : mc_H), mc_ev X 43 26 ls (.ref r :: st) G = (mc_getf G r 5 4).bind (fun v => mc_ev X 43 29 ls (v :: st) G)) ∧
  (∀ (v0 v1 : Value) (x : Int32) (st : List Value) (G : mc_H), mc_ev X 43 29 [v0, v1, .int x] st G = mc_ev X 43 30 [v0, v1, .int x] (.int x :: st) G) ∧
  (∀ (v1 v2 : Value) (x : Nat) (st : List Value) (G : mc_H), mc_ev X 43 30 [.ref x, v1, v2] st G = mc_ev X 43 31 [.ref x, v1, v2] (.ref x :: st) G) ∧
  (∀ (r : Nat) (ls st : List Value) (G : mc_H), mc_ev X 43 31 ls (.ref r :: st) G = (mc_getf G r 4 1).bind (fun v => mc_ev X 43 34 ls (v :: st) G)) ∧
  (∀ (r : Nat) (ls st : List Value) (G : mc_H), mc_ev X 43 34 ls (.ref r :: st) G = (mc_getf G r 5 4).bind (fun v => mc_ev X 43 37 ls (v :: st) G)) ∧
  (∀ (v0 v1 : Value) (x : Int32) (st : List Value) (G : mc_H), mc_ev X 43 37 [v0, v1, .int x] st G = mc_ev X 43 38 [v0, v1, .int x] (.int x :: st) G) ∧
  (∀ (i : Int32) (r : Value) (ls st : List Value) (G : mc_H), mc_ev X 43 38 ls (.int i :: r :: st) G = (mc_getA X G 0 r i).bind (fun x => mc_ev X 43 39 ls (.int x :: st) G)) ∧
  (∀ (x : Int32) (ls st : List Value) (G : mc_H), mc_ev X 43 39 ls (.int x :: st) G = mc_ev X 43 40 ls (.int (-x) :: st) G) ∧
  (∀ (x i : Int32) (r : Nat) (ls st : List Value) (G : mc_H), mc_ev X 43 40 ls (.int x :: .int i :: .ref r :: st) G = (mc_setA G 0 r i x).bind (fun G' => mc_ev X 43 41 ls st G')) ∧
  (∀ (v0 v1 : Value) (x : Int32) (st : List Value) (G : mc_H), mc_ev X 43 41 [v0, v1, .int x] st G = mc_ev X 43 44 [v0, v1, .int (x + 1)] st G) ∧
  (∀ (ls st : List Value) (G : mc_H), mc_ev X 43 44 ls st G = mc_ev X 43 2 ls st G) ∧
  (∀ (ls : List Value) (G : mc_H), mc_ev X 43 47 ls [] G = some (none, G)) := ⟨fun ls st G => ev_iconst rfl rfl,
  fun v0 v1 v2 x st G => ev_istore_n (X := X) (k := 43) (pc := 1) (ls := [v0, v1, v2]) (st := st) (G := G) (j := 2) (x := x) rfl (Nat.le_of_ble_eq_true rfl),
  fun v1 v2 x st G => ev_aload_n rfl rfl,
  fun r ls st G => ev_getfield rfl,
  fun r ls st G => ev_getfield rfl,
  fun x y ls st G => ev_br rfl rfl,
  fun v1 v2 x st G => ev_aload_n rfl rfl,
  fun v0 v1 x st G => ev_iload_n rfl rfl,
  fun v0 v2 x st G => ev_iload_n rfl rfl,
  fun a0 a1 r ls st G hr hG => ev_virt (As := [.int a0, .int a1]) rfl rfl rfl rfl rfl rfl hr hG,
  fun x ls st G => ev_br rfl rfl,
  fun v1 v2 x st G => ev_aload_n rfl rfl,
  fun r ls st G => ev_getfield rfl,
  fun r ls st G => ev_getfield rfl,
  fun v0 v1 x st G => ev_iload_n rfl rfl,
  fun v1 v2 x st G => ev_aload_n rfl rfl,
  fun r ls st G => ev_getfield rfl,
  fun r ls st G => ev_getfield rfl,
  fun v0 v1 x st G => ev_iload_n rfl rfl,
  fun i r ls st G => ev_iaload rfl,
  fun x ls st G => ev_ineg rfl,
  fun x i r ls st G => ev_iastore rfl,
  fun v0 v1 x st G => ev_iinc (X := X) (k := 43) (pc := 41) (ls := [v0, v1, .int x]) (st := st) (G := G) (j := 2) (n := 1) (x := x) (v := 1) rfl rfl rfl,
  fun ls st G => ev_goto rfl rfl,
  fun ls G => ev_return rfl rfl⟩
theorem h_44_4 {X : mc_X} : ∀ (v0 v1 : Value) (x : Int32) (st : List Value) (G : mc_H), mc_ev X 44 4 [v0, v1, .int x] st G = mc_ev X 44 5 [v0, v1, .int x] (.int x :: st) G := fun v0 v1 x st G => ev_iload_n rfl rfl
theorem e_44 {X : mc_X} : (∀ (ls st : List Value) (G : mc_H), mc_ev X 44 0 ls st G = mc_ev X 44 1 ls (.int 0 :: st) G) ∧
  (∀ (v0 v1 v2 : Value) (x : Int32) (st : List Value) (G : mc_H), mc_ev X 44 1 [v0, v1, v2] (.int x :: st) G = mc_ev X 44 2 [v0, .int x, v2] st G) ∧
  (∀ (ls st : List Value) (G : mc_H), mc_ev X 44 2 ls st G = mc_ev X 44 3 ls (.int 0 :: st) G) ∧
  (∀ (v0 v1 v2 : Value) (x : Int32) (st : List Value) (G : mc_H), mc_ev X 44 3 [v0, v1, v2] (.int x :: st) G = mc_ev X 44 4 [v0, v1, .int x] st G) ∧
  (∀ (v1 v2 : Value) (x : Nat) (st : List Value) (G : mc_H), mc_ev X 44 5 [.ref x, v1, v2] st G = mc_ev X 44 6 [.ref x, v1, v2] (.ref x :: st) G) ∧
  (∀ (r : Nat) (ls st : List Value) (G : mc_H), mc_ev X 44 6 ls (.ref r :: st) G = (mc_getf G r 4 0).bind (fun v => mc_ev X 44 9 ls (v :: st) G)) ∧
  (∀ (r : Nat) (ls st : List Value) (G : mc_H), mc_ev X 44 9 ls (.ref r :: st) G = (mc_getf G r 0 3).bind (fun v => mc_ev X 44 12 ls (v :: st) G)) ∧
  (∀ (x y : Int32) (ls st : List Value) (G : mc_H), mc_ev X 44 12 ls (.int y :: .int x :: st) G = if x < y then mc_ev X 44 15 ls st G else mc_ev X 44 57 ls st G) ∧
  (∀ (v1 v2 : Value) (x : Nat) (st : List Value) (G : mc_H), mc_ev X 44 15 [.ref x, v1, v2] st G = mc_ev X 44 16 [.ref x, v1, v2] (.ref x :: st) G) ∧
  (∀ (v0 v1 : Value) (x : Int32) (st : List Value) (G : mc_H), mc_ev X 44 16 [v0, v1, .int x] st G = mc_ev X 44 17 [v0, v1, .int x] (.int x :: st) G) ∧
  (∀ (a0 : Int32) (r : Nat) (ls st : List Value) (G : mc_H), st.length ≤ 4 → mc_cls G r = some 4 → mc_ev X 44 17 ls (.int a0 :: .ref r :: st) G = (mc_ev X 34 0 [.ref r, .int a0, .null, .null] [] G).bind (fun q => mc_ev X 44 20 ls (q.1.toList ++ st) q.2)) ∧
  (∀ (x : Int32) (ls st : List Value) (G : mc_H), mc_ev X 44 20 ls (.int x :: st) G = if x < 0 then mc_ev X 44 23 ls st G else mc_ev X 44 51 ls st G) ∧
  (∀ (v0 v2 : Value) (x : Int32) (st : List Value) (G : mc_H), mc_ev X 44 23 [v0, .int x, v2] st G = mc_ev X 44 24 [v0, .int x, v2] (.int x :: st) G) ∧
  (∀ (ls st : List Value) (G : mc_H), mc_ev X 44 24 ls st G = mc_ev X 44 25 ls (.int 1 :: st) G) ∧
  (∀ (v1 v2 : Value) (x : Nat) (st : List Value) (G : mc_H), mc_ev X 44 25 [.ref x, v1, v2] st G = mc_ev X 44 26 [.ref x, v1, v2] (.ref x :: st) G) ∧
  (∀ (r : Nat) (ls st : List Value) (G : mc_H), mc_ev X 44 26 ls (.ref r :: st) G = (mc_getf G r 4 0).bind (fun v => mc_ev X 44 29 ls (v :: st) G)) ∧
  (∀ (r : Nat) (ls st : List Value) (G : mc_H), mc_ev X 44 29 ls (.ref r :: st) G = (mc_getf G r 0 8).bind (fun v => mc_ev X 44 32 ls (v :: st) G)) ∧
  (∀ (v0 v1 : Value) (x : Int32) (st : List Value) (G : mc_H), mc_ev X 44 32 [v0, v1, .int x] st G = mc_ev X 44 33 [v0, v1, .int x] (.int x :: st) G) ∧
  (∀ (i : Int32) (r : Value) (ls st : List Value) (G : mc_H), mc_ev X 44 33 ls (.int i :: r :: st) G = (mc_getA X G 0 r i).bind (fun x => mc_ev X 44 34 ls (.int x :: st) G)) ∧
  (∀ (x y : Int32) (ls st : List Value) (G : mc_H), mc_ev X 44 34 ls (.int y :: .int x :: st) G = mc_ev X 44 35 ls (.int (x <<< (y &&& 31)) :: st) G) ∧
  (∀ (x y : Int32) (ls st : List Value) (G : mc_H), mc_ev X 44 35 ls (.int y :: .int x :: st) G = mc_ev X 44 36 ls (.int (x ^^^ y) :: st) G) ∧
  (∀ (v0 v1 v2 : Value) (x : Int32) (st : List Value) (G : mc_H), mc_ev X 44 36 [v0, v1, v2] (.int x :: st) G = mc_ev X 44 37 [v0, .int x, v2] st G) ∧
  (∀ (v0 v2 : Value) (x : Int32) (st : List Value) (G : mc_H), mc_ev X 44 37 [v0, .int x, v2] st G = mc_ev X 44 38 [v0, .int x, v2] (.int x :: st) G) ∧
  (∀ (ls st : List Value) (G : mc_H), mc_ev X 44 38 ls st G = mc_ev X 44 39 ls (.int 1 :: st) G) ∧
  (∀ (v1 v2 : Value) (x : Nat) (st : List Value) (G : mc_H), mc_ev X 44 39 [.ref x, v1, v2] st G = mc_ev X 44 40 [.ref x, v1, v2] (.ref x :: st) G) ∧
  (∀ (r : Nat) (ls st : List Value) (G : mc_H), mc_ev X 44 40 ls (.ref r :: st) G = (mc_getf G r 4 0).bind (fun v => mc_ev X 44 43 ls (v :: st) G)) ∧
  (∀ (r : Nat) (ls st : List Value) (G : mc_H), mc_ev X 44 43 ls (.ref r :: st) G = (mc_getf G r 0 9).bind (fun v => mc_ev X 44 46 ls (v :: st) G)) ∧
  (∀ (v0 v1 : Value) (x : Int32) (st : List Value) (G : mc_H), mc_ev X 44 46 [v0, v1, .int x] st G = mc_ev X 44 47 [v0, v1, .int x] (.int x :: st) G) ∧
  (∀ (i : Int32) (r : Value) (ls st : List Value) (G : mc_H), mc_ev X 44 47 ls (.int i :: r :: st) G = (mc_getA X G 0 r i).bind (fun x => mc_ev X 44 48 ls (.int x :: st) G)) ∧
  (∀ (x y : Int32) (ls st : List Value) (G : mc_H), mc_ev X 44 48 ls (.int y :: .int x :: st) G = mc_ev X 44 49 ls (.int (x <<< (y &&& 31)) :: st) G) ∧
  (∀ (x y : Int32) (ls st : List Value) (G : mc_H), mc_ev X 44 49 ls (.int y :: .int x :: st) G = mc_ev X 44 50 ls (.int (x ^^^ y) :: st) G) ∧
  (∀ (v0 v1 v2 : Value) (x : Int32) (st : List Value) (G : mc_H), mc_ev X 44 50 [v0, v1, v2] (.int x :: st) G = mc_ev X 44 51 [v0, .int x, v2] st G) ∧
  (∀ (v0 v1 : Value) (x : Int32) (st : List Value) (G : mc_H), mc_ev X 44 51 [v0, v1, .int x] st G = mc_ev X 44 54 [v0, v1, .int (x + 1)] st G) ∧
  (∀ (ls st : List Value) (G : mc_H), mc_ev X 44 54 ls st G = mc_ev X 44 4 ls st G) ∧
  (∀ (v0 v2 : Value) (x : Int32) (st : List Value) (G : mc_H), mc_ev X 44 57 [v0, .int x, v2] st G = mc_ev X 44 58 [v0, .int x, v2] (.int x :: st) G) ∧
  (∀ (v : Int32) (ls : List Value) (G : mc_H), mc_ev X 44 58 ls [.int v] G = some (some (.int v), G)) := ⟨fun ls st G => ev_iconst rfl rfl,
  fun v0 v1 v2 x st G => ev_istore_n (X := X) (k := 44) (pc := 1) (ls := [v0, v1, v2]) (st := st) (G := G) (j := 1) (x := x) rfl (Nat.le_of_ble_eq_true rfl),
  fun ls st G => ev_iconst rfl rfl,
  fun v0 v1 v2 x st G => ev_istore_n (X := X) (k := 44) (pc := 3) (ls := [v0, v1, v2]) (st := st) (G := G) (j := 2) (x := x) rfl (Nat.le_of_ble_eq_true rfl),
  fun v1 v2 x st G => ev_aload_n rfl rfl,
  fun r ls st G => ev_getfield rfl,
  fun r ls st G => ev_getfield rfl,
  fun x y ls st G => ev_br rfl rfl,
  fun v1 v2 x st G => ev_aload_n rfl rfl,
  fun v0 v1 x st G => ev_iload_n rfl rfl,
  fun a0 r ls st G hr hG => ev_virt (As := [.int a0]) rfl rfl rfl rfl rfl rfl hr hG,
  fun x ls st G => ev_br rfl rfl,
  fun v0 v2 x st G => ev_iload_n rfl rfl,
  fun ls st G => ev_iconst rfl rfl,
  fun v1 v2 x st G => ev_aload_n rfl rfl,
  fun r ls st G => ev_getfield rfl,
  fun r ls st G => ev_getfield rfl,
  fun v0 v1 x st G => ev_iload_n rfl rfl,
  fun i r ls st G => ev_iaload rfl,
  fun x y ls st G => ev_ishl rfl,
  fun x y ls st G => ev_ixor rfl,
  fun v0 v1 v2 x st G => ev_istore_n (X := X) (k := 44) (pc := 36) (ls := [v0, v1, v2]) (st := st) (G := G) (j := 1) (x := x) rfl (Nat.le_of_ble_eq_true rfl),
  fun v0 v2 x st G => ev_iload_n rfl rfl,
  fun ls st G => ev_iconst rfl rfl,
  fun v1 v2 x st G => ev_aload_n rfl rfl,
  fun r ls st G => ev_getfield rfl,
  fun r ls st G => ev_getfield rfl,
  fun v0 v1 x st G => ev_iload_n rfl rfl,
  fun i r ls st G => ev_iaload rfl,
  fun x y ls st G => ev_ishl rfl,
  fun x y ls st G => ev_ixor rfl,
  fun v0 v1 v2 x st G => ev_istore_n (X := X) (k := 44) (pc := 50) (ls := [v0, v1, v2]) (st := st) (G := G) (j := 1) (x := x) rfl (Nat.le_of_ble_eq_true rfl),
  fun v0 v1 x st G => ev_iinc (X := X) (k := 44) (pc := 51) (ls := [v0, v1, .int x]) (st := st) (G := G) (j := 2) (n := 1) (x := x) (v := 1) rfl rfl rfl,
  fun ls st G => ev_goto rfl rfl,
  fun v0 v2 x st G => ev_iload_n rfl rfl,
  fun v ls G => ev_ireturn rfl rfl⟩
theorem e_46 {X : mc_X} : (∀ (x : Nat) (st : List Value) (G : mc_H), mc_ev X 46 0 [.ref x] st G = mc_ev X 46 1 [.ref x] (.ref x :: st) G) ∧
  (∀ (ls st : List Value) (G : mc_H), mc_ev X 46 1 ls st G = mc_ev X 46 2 ls (.int 0 :: st) G) ∧
  (∀ (v : Value) (r : Nat) (ls st : List Value) (G : mc_H), mc_ev X 46 2 ls (v :: .ref r :: st) G = (mc_setf G r 5 0 v).bind (fun G' => mc_ev X 46 5 ls st G')) ∧
  (∀ (x : Nat) (st : List Value) (G : mc_H), mc_ev X 46 5 [.ref x] st G = mc_ev X 46 6 [.ref x] (.ref x :: st) G) ∧
  (∀ (ls st : List Value) (G : mc_H), mc_ev X 46 6 ls st G = mc_ev X 46 7 ls (.int 0 :: st) G) ∧
  (∀ (v : Value) (r : Nat) (ls st : List Value) (G : mc_H), mc_ev X 46 7 ls (v :: .ref r :: st) G = (mc_setf G r 5 1 v).bind (fun G' => mc_ev X 46 10 ls st G')) ∧
  (∀ (x : Nat) (st : List Value) (G : mc_H), mc_ev X 46 10 [.ref x] st G = mc_ev X 46 11 [.ref x] (.ref x :: st) G) ∧
  (∀ (ls st : List Value) (G : mc_H), mc_ev X 46 11 ls st G = mc_ev X 46 12 ls (.int 0 :: st) G) ∧
  (∀ (v : Value) (r : Nat) (ls st : List Value) (G : mc_H), mc_ev X 46 12 ls (v :: .ref r :: st) G = (mc_setf G r 5 2 v).bind (fun G' => mc_ev X 46 15 ls st G')) ∧
  (∀ (x : Nat) (st : List Value) (G : mc_H), mc_ev X 46 15 [.ref x] st G = mc_ev X 46 16 [.ref x] (.ref x :: st) G) ∧
  (∀ (r : Nat) (ls st : List Value) (G : mc_H), mc_ev X 46 16 ls (.ref r :: st) G = (mc_getf G r 5 3).bind (fun v => mc_ev X 46 19 ls (v :: st) G)) ∧
  (∀ (ls st : List Value) (G : mc_H), mc_ev X 46 19 ls st G = mc_ev X 46 20 ls (.int 0 :: st) G) ∧
  (∀ (a0 : Nat) (a1 : Int32) (ls st : List Value) (G : mc_H), st.length ≤ 4 → mc_ev X 46 20 ls (.int a1 :: .ref a0 :: st) G = (mc_ev X 179 0 [.ref a0, .int a1, .null, .null] [] G).bind (fun q => mc_ev X 46 23 ls (q.1.toList ++ st) q.2)) ∧
  (∀ (x : Nat) (st : List Value) (G : mc_H), mc_ev X 46 23 [.ref x] st G = mc_ev X 46 24 [.ref x] (.ref x :: st) G) ∧
  (∀ (r : Nat) (ls st : List Value) (G : mc_H), mc_ev X 46 24 ls (.ref r :: st) G = (mc_getf G r 5 4).bind (fun v => mc_ev X 46 27 ls (v :: st) G)) ∧
  (∀ (ls st : List Value) (G : mc_H), mc_ev X 46 27 ls st G = mc_ev X 46 28 ls (.int 0 :: st) G) ∧
  (∀ (a0 : Nat) (a1 : Int32) (ls st : List Value) (G : mc_H), st.length ≤ 4 → mc_ev X 46 28 ls (.int a1 :: .ref a0 :: st) G = (mc_ev X 179 0 [.ref a0, .int a1, .null, .null] [] G).bind (fun q => mc_ev X 46 31 ls (q.1.toList ++ st) q.2)) ∧
  (∀ (ls : List Value) (G : mc_H), mc_ev X 46 31 ls [] G = some (none, G)) := ⟨fun  x st G => ev_aload_n rfl rfl,
  fun ls st G => ev_iconst rfl rfl,
  fun v r ls st G => ev_putfield rfl,
  fun  x st G => ev_aload_n rfl rfl,
  fun ls st G => ev_iconst rfl rfl,
  fun v r ls st G => ev_putfield rfl,
  fun  x st G => ev_aload_n rfl rfl,
  fun ls st G => ev_iconst rfl rfl,
  fun v r ls st G => ev_putfield rfl,
  fun  x st G => ev_aload_n rfl rfl,
  fun r ls st G => ev_getfield rfl,
  fun ls st G => ev_iconst rfl rfl,
  fun a0 a1 ls st G hr => ev_stat (As := [.ref a0, .int a1]) rfl (by decide) rfl rfl rfl rfl hr,
  fun  x st G => ev_aload_n rfl rfl,
  fun r ls st G => ev_getfield rfl,
  fun ls st G => ev_iconst rfl rfl,
  fun a0 a1 ls st G hr => ev_stat (As := [.ref a0, .int a1]) rfl (by decide) rfl rfl rfl rfl hr,
  fun ls G => ev_return rfl rfl⟩
theorem e_47 {X : mc_X} : (∀ (v1 : Value) (x : Nat) (st : List Value) (G : mc_H), mc_ev X 47 0 [.ref x, v1] st G = mc_ev X 47 1 [.ref x, v1] (.ref x :: st) G) ∧
  (∀ (v0 : Value) (x : Nat) (st : List Value) (G : mc_H), mc_ev X 47 1 [v0, .ref x] st G = mc_ev X 47 2 [v0, .ref x] (.ref x :: st) G) ∧
  (∀ (r : Nat) (ls st : List Value) (G : mc_H), mc_ev X 47 2 ls (.ref r :: st) G = (mc_getf G r 5 0).bind (fun v => mc_ev X 47 5 ls (v :: st) G)) ∧
  (∀ (v : Value) (r : Nat) (ls st : List Value) (G : mc_H), mc_ev X 47 5 ls (v :: .ref r :: st) G = (mc_setf G r 5 0 v).bind (fun G' => mc_ev X 47 8 ls st G')) ∧
  (∀ (v1 : Value) (x : Nat) (st : List Value) (G : mc_H), mc_ev X 47 8 [.ref x, v1] st G = mc_ev X 47 9 [.ref x, v1] (.ref x :: st) G) ∧
  (∀ (v0 : Value) (x : Nat) (st : List Value) (G : mc_H), mc_ev X 47 9 [v0, .ref x] st G = mc_ev X 47 10 [v0, .ref x] (.ref x :: st) G) ∧
  (∀ (r : Nat) (ls st : List Value) (G : mc_H), mc_ev X 47 10 ls (.ref r :: st) G = (mc_getf G r 5 1).bind (fun v => mc_ev X 47 13 ls (v :: st) G)) ∧
  (∀ (v : Value) (r : Nat) (ls st : List Value) (G : mc_H), mc_ev X 47 13 ls (v :: .ref r :: st) G = (mc_setf G r 5 1 v).bind (fun G' => mc_ev X 47 16 ls st G')) ∧
  (∀ (v1 : Value) (x : Nat) (st : List Value) (G : mc_H), mc_ev X 47 16 [.ref x, v1] st G = mc_ev X 47 17 [.ref x, v1] (.ref x :: st) G) ∧
  (∀ (v0 : Value) (x : Nat) (st : List Value) (G : mc_H), mc_ev X 47 17 [v0, .ref x] st G = mc_ev X 47 18 [v0, .ref x] (.ref x :: st) G) ∧
  (∀ (r : Nat) (ls st : List Value) (G : mc_H), mc_ev X 47 18 ls (.ref r :: st) G = (mc_getf G r 5 2).bind (fun v => mc_ev X 47 21 ls (v :: st) G)) ∧
  (∀ (v : Value) (r : Nat) (ls st : List Value) (G : mc_H), mc_ev X 47 21 ls (v :: .ref r :: st) G = (mc_setf G r 5 2 v).bind (fun G' => mc_ev X 47 24 ls st G')) ∧
  (∀ (v0 : Value) (x : Nat) (st : List Value) (G : mc_H), mc_ev X 47 24 [v0, .ref x] st G = mc_ev X 47 25 [v0, .ref x] (.ref x :: st) G) ∧
  (∀ (r : Nat) (ls st : List Value) (G : mc_H), mc_ev X 47 25 ls (.ref r :: st) G = (mc_getf G r 5 3).bind (fun v => mc_ev X 47 28 ls (v :: st) G)) ∧
  (∀ (ls st : List Value) (G : mc_H), mc_ev X 47 28 ls st G = mc_ev X 47 29 ls (.int 0 :: st) G) ∧
  (∀ (v1 : Value) (x : Nat) (st : List Value) (G : mc_H), mc_ev X 47 29 [.ref x, v1] st G = mc_ev X 47 30 [.ref x, v1] (.ref x :: st) G) ∧
  (∀ (r : Nat) (ls st : List Value) (G : mc_H), mc_ev X 47 30 ls (.ref r :: st) G = (mc_getf G r 5 3).bind (fun v => mc_ev X 47 33 ls (v :: st) G)) ∧
  (∀ (ls st : List Value) (G : mc_H), mc_ev X 47 33 ls st G = mc_ev X 47 34 ls (.int 0 :: st) G) ∧
  (∀ (ls st : List Value) (G : mc_H), mc_ev X 47 34 ls st G = mc_ev X 47 36 ls (.int 12 :: st) G) ∧
  (∀ (n dp sp : Int32) (a1 a0 : Nat) (ls st : List Value) (G : mc_H), st.length ≤ 4 → mc_ev X 47 36 ls (.int n :: .int dp :: .ref a1 :: .int sp :: .ref a0 :: st) G = (mc_cpy G a0 a1 sp dp n).bind (fun G' => mc_ev X 47 39 ls st G')) ∧
  (∀ (v0 : Value) (x : Nat) (st : List Value) (G : mc_H), mc_ev X 47 39 [v0, .ref x] st G = mc_ev X 47 40 [v0, .ref x] (.ref x :: st) G) ∧
  (∀ (r : Nat) (ls st : List Value) (G : mc_H), mc_ev X 47 40 ls (.ref r :: st) G = (mc_getf G r 5 4).bind (fun v => mc_ev X 47 43 ls (v :: st) G)) ∧
  (∀ (ls st : List Value) (G : mc_H), mc_ev X 47 43 ls st G = mc_ev X 47 44 ls (.int 0 :: st) G) ∧
  (∀ (v1 : Value) (x : Nat) (st : List Value) (G : mc_H), mc_ev X 47 44 [.ref x, v1] st G = mc_ev X 47 45 [.ref x, v1] (.ref x :: st) G) ∧
  (∀ (r : Nat) (ls st : List Value) (G : mc_H), mc_ev X 47 45 ls (.ref r :: st) G = (mc_getf G r 5 4).bind (fun v => mc_ev X 47 48 ls (v :: st) G)) ∧
  (∀ (ls st : List Value) (G : mc_H), mc_ev X 47 48 ls st G = mc_ev X 47 49 ls (.int 0 :: st) G) ∧
  (∀ (ls st : List Value) (G : mc_H), mc_ev X 47 49 ls st G = mc_ev X 47 51 ls (.int 17 :: st) G) ∧
  (∀ (n dp sp : Int32) (a1 a0 : Nat) (ls st : List Value) (G : mc_H), st.length ≤ 4 → mc_ev X 47 51 ls (.int n :: .int dp :: .ref a1 :: .int sp :: .ref a0 :: st) G = (mc_cpy G a0 a1 sp dp n).bind (fun G' => mc_ev X 47 54 ls st G')) ∧
  (∀ (ls : List Value) (G : mc_H), mc_ev X 47 54 ls [] G = some (none, G)) := ⟨fun v1 x st G => ev_aload_n rfl rfl,
  fun v0 x st G => ev_aload_n rfl rfl,
  fun r ls st G => ev_getfield rfl,
  fun v r ls st G => ev_putfield rfl,
  fun v1 x st G => ev_aload_n rfl rfl,
  fun v0 x st G => ev_aload_n rfl rfl,
  fun r ls st G => ev_getfield rfl,
  fun v r ls st G => ev_putfield rfl,
  fun v1 x st G => ev_aload_n rfl rfl,
  fun v0 x st G => ev_aload_n rfl rfl,
  fun r ls st G => ev_getfield rfl,
  fun v r ls st G => ev_putfield rfl,
  fun v0 x st G => ev_aload_n rfl rfl,
  fun r ls st G => ev_getfield rfl,
  fun ls st G => ev_iconst rfl rfl,
  fun v1 x st G => ev_aload_n rfl rfl,
  fun r ls st G => ev_getfield rfl,
  fun ls st G => ev_iconst rfl rfl,
  fun ls st G => ev_bipush rfl rfl,
  fun n dp sp a1 a0 ls st G hr => ev_copy rfl hr,
  fun v0 x st G => ev_aload_n rfl rfl,
  fun r ls st G => ev_getfield rfl,
  fun ls st G => ev_iconst rfl rfl,
  fun v1 x st G => ev_aload_n rfl rfl,
  fun r ls st G => ev_getfield rfl,
  fun ls st G => ev_iconst rfl rfl,
  fun ls st G => ev_bipush rfl rfl,
  fun n dp sp a1 a0 ls st G hr => ev_copy rfl hr,
  fun ls G => ev_return rfl rfl⟩
theorem e_49 {X : mc_X} : (∀ (x : Nat) (st : List Value) (G : mc_H), mc_ev X 49 0 [.ref x] st G = mc_ev X 49 1 [.ref x] (.ref x :: st) G) ∧
  (∀ (r : Nat) (ls st : List Value) (G : mc_H), mc_ev X 49 1 ls (.ref r :: st) G = (mc_getf G r 6 1).bind (fun v => mc_ev X 49 4 ls (v :: st) G)) ∧
  (∀ (ls st : List Value) (G : mc_H), mc_ev X 49 4 ls st G = mc_ev X 49 5 ls (.int (-1) :: st) G) ∧
  (∀ (x y : Int32) (ls st : List Value) (G : mc_H), mc_ev X 49 5 ls (.int y :: .int x :: st) G = if x = y then mc_ev X 49 8 ls st G else mc_ev X 49 12 ls st G) ∧
  (∀ (ls st : List Value) (G : mc_H), mc_ev X 49 8 ls st G = mc_ev X 49 9 ls (.int 1 :: st) G) ∧
  (∀ (ls st : List Value) (G : mc_H), mc_ev X 49 9 ls st G = mc_ev X 49 13 ls st G) ∧
  (∀ (ls st : List Value) (G : mc_H), mc_ev X 49 12 ls st G = mc_ev X 49 13 ls (.int 0 :: st) G) ∧
  (∀ (v : Int32) (ls : List Value) (G : mc_H), (v = 0 ∨ v = 1) → mc_ev X 49 13 ls [.int v] G = some (some (.int v), G)) := ⟨fun  x st G => ev_aload_n rfl rfl,
  fun r ls st G => ev_getfield rfl,
  fun ls st G => ev_iconst rfl rfl,
  fun x y ls st G => ev_br rfl rfl,
  fun ls st G => ev_iconst rfl rfl,
  fun ls st G => ev_goto rfl rfl,
  fun ls st G => ev_iconst rfl rfl,
  fun v ls G hv => ev_zreturn rfl rfl hv⟩
theorem e_50 {X : mc_X} : (∀ (v1 v2 : Value) (x : Nat) (st : List Value) (G : mc_H), mc_ev X 50 0 [.ref x, v1, v2] st G = mc_ev X 50 1 [.ref x, v1, v2] (.ref x :: st) G) ∧
  (∀ (v0 v2 : Value) (x : Int32) (st : List Value) (G : mc_H), mc_ev X 50 1 [v0, .int x, v2] st G = mc_ev X 50 2 [v0, .int x, v2] (.int x :: st) G) ∧
  (∀ (v : Value) (r : Nat) (ls st : List Value) (G : mc_H), mc_ev X 50 2 ls (v :: .ref r :: st) G = (mc_setf G r 6 0 v).bind (fun G' => mc_ev X 50 5 ls st G')) ∧
  (∀ (v1 v2 : Value) (x : Nat) (st : List Value) (G : mc_H), mc_ev X 50 5 [.ref x, v1, v2] st G = mc_ev X 50 6 [.ref x, v1, v2] (.ref x :: st) G) ∧
  (∀ (v0 v1 : Value) (x : Int32) (st : List Value) (G : mc_H), mc_ev X 50 6 [v0, v1, .int x] st G = mc_ev X 50 7 [v0, v1, .int x] (.int x :: st) G) ∧
  (∀ (v : Value) (r : Nat) (ls st : List Value) (G : mc_H), mc_ev X 50 7 ls (v :: .ref r :: st) G = (mc_setf G r 6 1 v).bind (fun G' => mc_ev X 50 10 ls st G')) ∧
  (∀ (v1 v2 : Value) (x : Nat) (st : List Value) (G : mc_H), mc_ev X 50 10 [.ref x, v1, v2] st G = mc_ev X 50 11 [.ref x, v1, v2] (.ref x :: st) G) ∧
  (∀ (r : Nat) (ls st : List Value) (G : mc_H), mc_ev X 50 11 ls (.ref r :: st) G = (mc_getf G r 6 2).bind (fun v => mc_ev X 50 14 ls (v :: st) G)) ∧
  (∀ (ls st : List Value) (G : mc_H), mc_ev X 50 14 ls st G = mc_ev X 50 15 ls (.int (-1) :: st) G) ∧
  (∀ (a0 : Nat) (a1 : Int32) (ls st : List Value) (G : mc_H), st.length ≤ 4 → mc_ev X 50 15 ls (.int a1 :: .ref a0 :: st) G = (mc_ev X 179 0 [.ref a0, .int a1, .null, .null] [] G).bind (fun q => mc_ev X 50 18 ls (q.1.toList ++ st) q.2)) ∧
  (∀ (ls : List Value) (G : mc_H), mc_ev X 50 18 ls [] G = some (none, G)) := ⟨fun v1 v2 x st G => ev_aload_n rfl rfl,
  fun v0 v2 x st G => ev_iload_n rfl rfl,
  fun v r ls st G => ev_putfield rfl,
  fun v1 v2 x st G => ev_aload_n rfl rfl,
  fun v0 v1 x st G => ev_iload_n rfl rfl,
  fun v r ls st G => ev_putfield rfl,
  fun v1 v2 x st G => ev_aload_n rfl rfl,
  fun r ls st G => ev_getfield rfl,
  fun ls st G => ev_iconst rfl rfl,
  fun a0 a1 ls st G hr => ev_stat (As := [.ref a0, .int a1]) rfl (by decide) rfl rfl rfl rfl hr,
  fun ls G => ev_return rfl rfl⟩
theorem e_51 {X : mc_X} : (∀ (v0 : Value) (x : Int32) (st : List Value) (G : mc_H), mc_ev X 51 0 [v0, .int x] st G = mc_ev X 51 1 [v0, .int x] (.int x :: st) G) ∧
  (∀ (x : Int32) (ls st : List Value) (G : mc_H), mc_ev X 51 1 ls (.int x :: st) G = if x < 0 then mc_ev X 51 12 ls st G else mc_ev X 51 4 ls st G) ∧
  (∀ (v0 : Value) (x : Int32) (st : List Value) (G : mc_H), mc_ev X 51 4 [v0, .int x] st G = mc_ev X 51 5 [v0, .int x] (.int x :: st) G) ∧
  (∀ (v1 : Value) (x : Nat) (st : List Value) (G : mc_H), mc_ev X 51 5 [.ref x, v1] st G = mc_ev X 51 6 [.ref x, v1] (.ref x :: st) G) ∧
  (∀ (r : Nat) (ls st : List Value) (G : mc_H), mc_ev X 51 6 ls (.ref r :: st) G = (mc_getf G r 6 1).bind (fun v => mc_ev X 51 9 ls (v :: st) G)) ∧
  (∀ (x y : Int32) (ls st : List Value) (G : mc_H), mc_ev X 51 9 ls (.int y :: .int x :: st) G = if x < y then mc_ev X 51 16 ls st G else mc_ev X 51 12 ls st G) ∧
  (∀ (ls st : List Value) (G : mc_H), mc_ev X 51 12 ls st G = mc_ev X 51 13 ls (.int 1 :: st) G) ∧
  (∀ (ls st : List Value) (G : mc_H), mc_ev X 51 13 ls st G = mc_ev X 51 17 ls st G) ∧
  (∀ (ls st : List Value) (G : mc_H), mc_ev X 51 16 ls st G = mc_ev X 51 17 ls (.int 0 :: st) G) ∧
  (∀ (v : Int32) (ls : List Value) (G : mc_H), (v = 0 ∨ v = 1) → mc_ev X 51 17 ls [.int v] G = some (some (.int v), G)) := ⟨fun v0 x st G => ev_iload_n rfl rfl,
  fun x ls st G => ev_br rfl rfl,
  fun v0 x st G => ev_iload_n rfl rfl,
  fun v1 x st G => ev_aload_n rfl rfl,
  fun r ls st G => ev_getfield rfl,
  fun x y ls st G => ev_br rfl rfl,
  fun ls st G => ev_iconst rfl rfl,
  fun ls st G => ev_goto rfl rfl,
  fun ls st G => ev_iconst rfl rfl,
  fun v ls G hv => ev_zreturn rfl rfl hv⟩
theorem e_52 {X : mc_X} : (∀ (v1 : Value) (x : Nat) (st : List Value) (G : mc_H), mc_ev X 52 0 [.ref x, v1] st G = mc_ev X 52 1 [.ref x, v1] (.ref x :: st) G) ∧
  (∀ (r : Nat) (ls st : List Value) (G : mc_H), mc_ev X 52 1 ls (.ref r :: st) G = (mc_getf G r 6 2).bind (fun v => mc_ev X 52 4 ls (v :: st) G)) ∧
  (∀ (v0 : Value) (x : Int32) (st : List Value) (G : mc_H), mc_ev X 52 4 [v0, .int x] st G = mc_ev X 52 5 [v0, .int x] (.int x :: st) G) ∧
  (∀ (i : Int32) (r : Value) (ls st : List Value) (G : mc_H), mc_ev X 52 5 ls (.int i :: r :: st) G = (mc_getA X G 0 r i).bind (fun x => mc_ev X 52 6 ls (.int x :: st) G)) ∧
  (∀ (ls st : List Value) (G : mc_H), mc_ev X 52 6 ls st G = mc_ev X 52 7 ls (.int (-1) :: st) G) ∧
  (∀ (x y : Int32) (ls st : List Value) (G : mc_H), mc_ev X 52 7 ls (.int y :: .int x :: st) G = if x = y then mc_ev X 52 10 ls st G else mc_ev X 52 14 ls st G) ∧
  (∀ (ls st : List Value) (G : mc_H), mc_ev X 52 10 ls st G = mc_ev X 52 11 ls (.int 1 :: st) G) ∧
  (∀ (ls st : List Value) (G : mc_H), mc_ev X 52 11 ls st G = mc_ev X 52 15 ls st G) ∧
  (∀ (ls st : List Value) (G : mc_H), mc_ev X 52 14 ls st G = mc_ev X 52 15 ls (.int 0 :: st) G) ∧
  (∀ (v : Int32) (ls : List Value) (G : mc_H), (v = 0 ∨ v = 1) → mc_ev X 52 15 ls [.int v] G = some (some (.int v), G)) := ⟨fun v1 x st G => ev_aload_n rfl rfl,
  fun r ls st G => ev_getfield rfl,
  fun v0 x st G => ev_iload_n rfl rfl,
  fun i r ls st G => ev_iaload rfl,
  fun ls st G => ev_iconst rfl rfl,
  fun x y ls st G => ev_br rfl rfl,
  fun ls st G => ev_iconst rfl rfl,
  fun ls st G => ev_goto rfl rfl,
  fun ls st G => ev_iconst rfl rfl,
  fun v ls G hv => ev_zreturn rfl rfl hv⟩
theorem h_53_9 {X : mc_X} : ∀ (v0 v1 v2 : Value) (x : Int32) (st : List Value) (G : mc_H), mc_ev X 53 9 [v0, v1, v2, .int x] st G = mc_ev X 53 10 [v0, v1, v2, .int x] (.int x :: st) G := fun v0 v1 v2 x st G => ev_iload_n rfl rfl
theorem e_53 {X : mc_X} : (∀ (v1 v2 v3 : Value) (x : Nat) (st : List Value) (G : mc_H), mc_ev X 53 0 [.ref x, v1, v2, v3] st G = mc_ev X 53 1 [.ref x, v1, v2, v3] (.ref x :: st) G) ∧
  (∀ (r : Nat) (ls st : List Value) (G : mc_H), mc_ev X 53 1 ls (.ref r :: st) G = (mc_getf G r 6 2).bind (fun v => mc_ev X 53 4 ls (v :: st) G)) ∧
  (∀ (v0 v2 v3 : Value) (x : Int32) (st : List Value) (G : mc_H), mc_ev X 53 4 [v0, .int x, v2, v3] st G = mc_ev X 53 5 [v0, .int x, v2, v3] (.int x :: st) G) ∧
  (∀ (v0 v1 v3 : Value) (x : Int32) (st : List Value) (G : mc_H), mc_ev X 53 5 [v0, v1, .int x, v3] st G = mc_ev X 53 6 [v0, v1, .int x, v3] (.int x :: st) G) ∧
  (∀ (x i : Int32) (r : Nat) (ls st : List Value) (G : mc_H), mc_ev X 53 6 ls (.int x :: .int i :: .ref r :: st) G = (mc_setA G 0 r i x).bind (fun G' => mc_ev X 53 7 ls st G')) ∧
  (∀ (ls st : List Value) (G : mc_H), mc_ev X 53 7 ls st G = mc_ev X 53 8 ls (.int 0 :: st) G) ∧
  (∀ (v0 v1 v2 v3 : Value) (x : Int32) (st : List Value) (G : mc_H), mc_ev X 53 8 [v0, v1, v2, v3] (.int x :: st) G = mc_ev X 53 9 [v0, v1, v2, .int x] st G) ∧
  (∀ (v0 v1 v3 : Value) (x : Int32) (st : List Value) (G : mc_H), mc_ev X 53 10 [v0, v1, .int x, v3] st G = mc_ev X 53 11 [v0, v1, .int x, v3] (.int x :: st) G) ∧
  (∀ (x y : Int32) (ls st : List Value) (G : mc_H), mc_ev X 53 11 ls (.int y :: .int x :: st) G = if x < y then mc_ev X 53 14 ls st G else mc_ev X 53 32 ls st G) ∧
  (∀ (v1 v2 v3 : Value) (x : Nat) (st : List Value) (G : mc_H), mc_ev X 53 14 [.ref x, v1, v2, v3] st G = mc_ev X 53 15 [.ref x, v1, v2, v3] (.ref x :: st) G) ∧
  (∀ (r : Nat) (ls st : List Value) (G : mc_H), mc_ev X 53 15 ls (.ref r :: st) G = (mc_getf G r 6 3).bind (fun v => mc_ev X 53 18 ls (v :: st) G)) ∧
  (∀ (v1 v2 v3 : Value) (x : Nat) (st : List Value) (G : mc_H), mc_ev X 53 18 [.ref x, v1, v2, v3] st G = mc_ev X 53 19 [.ref x, v1, v2, v3] (.ref x :: st) G) ∧
  (∀ (v0 v2 v3 : Value) (x : Int32) (st : List Value) (G : mc_H), mc_ev X 53 19 [v0, .int x, v2, v3] st G = mc_ev X 53 20 [v0, .int x, v2, v3] (.int x :: st) G) ∧
  (∀ (v0 v1 v2 : Value) (x : Int32) (st : List Value) (G : mc_H), mc_ev X 53 20 [v0, v1, v2, .int x] st G = mc_ev X 53 21 [v0, v1, v2, .int x] (.int x :: st) G) ∧
  (∀ (a0 : Int32) (a1 : Int32) (r : Nat) (ls st : List Value) (G : mc_H), st.length ≤ 4 → mc_cls G r = some 6 → mc_ev X 53 21 ls (.int a1 :: .int a0 :: .ref r :: st) G = (mc_ev X 54 0 [.ref r, .int a0, .int a1] [] G).bind (fun q => mc_ev X 53 24 ls (q.1.toList ++ st) q.2)) ∧
  (∀ (ls st : List Value) (G : mc_H), mc_ev X 53 24 ls st G = mc_ev X 53 25 ls (.int 0 :: st) G) ∧
  (∀ (x i : Int32) (r : Nat) (ls st : List Value) (G : mc_H), mc_ev X 53 25 ls (.int x :: .int i :: .ref r :: st) G = (mc_setA G 0 r i x).bind (fun G' => mc_ev X 53 26 ls st G')) ∧
  (∀ (v0 v1 v2 : Value) (x : Int32) (st : List Value) (G : mc_H), mc_ev X 53 26 [v0, v1, v2, .int x] st G = mc_ev X 53 29 [v0, v1, v2, .int (x + 1)] st G) ∧
  (∀ (ls st : List Value) (G : mc_H), mc_ev X 53 29 ls st G = mc_ev X 53 9 ls st G) ∧
  (∀ (ls : List Value) (G : mc_H), mc_ev X 53 32 ls [] G = some (none, G)) := ⟨fun v1 v2 v3 x st G => ev_aload_n rfl rfl,
  fun r ls st G => ev_getfield rfl,
  fun v0 v2 v3 x st G => ev_iload_n rfl rfl,
  fun v0 v1 v3 x st G => ev_iload_n rfl rfl,
  fun x i r ls st G => ev_iastore rfl,
  fun ls st G => ev_iconst rfl rfl,
  fun v0 v1 v2 v3 x st G => ev_istore_n (X := X) (k := 53) (pc := 8) (ls := [v0, v1, v2, v3]) (st := st) (G := G) (j := 3) (x := x) rfl (Nat.le_of_ble_eq_true rfl),
  fun v0 v1 v3 x st G => ev_iload_n rfl rfl,
  fun x y ls st G => ev_br rfl rfl,
  fun v1 v2 v3 x st G => ev_aload_n rfl rfl,
  fun r ls st G => ev_getfield rfl,
  fun v1 v2 v3 x st G => ev_aload_n rfl rfl,
  fun v0 v2 v3 x st G => ev_iload_n rfl rfl,
  fun v0 v1 v2 x st G => ev_iload_n rfl rfl,
  fun a0 a1 r ls st G hr hG => ev_virt (As := [.int a0, .int a1]) rfl rfl rfl rfl rfl rfl hr hG,
  fun ls st G => ev_iconst rfl rfl,
  fun x i r ls st G => ev_iastore rfl,
  fun v0 v1 v2 x st G => ev_iinc (X := X) (k := 53) (pc := 26) (ls := [v0, v1, v2, .int x]) (st := st) (G := G) (j := 3) (n := 1) (x := x) (v := 1) rfl rfl rfl,
  fun ls st G => ev_goto rfl rfl,
  fun ls G => ev_return rfl rfl⟩
theorem e_54 {X : mc_X} : (∀ (v0 v2 : Value) (x : Int32) (st : List Value) (G : mc_H), mc_ev X 54 0 [v0, .int x, v2] st G = mc_ev X 54 1 [v0, .int x, v2] (.int x :: st) G) ∧
  (∀ (ls st : List Value) (G : mc_H), mc_ev X 54 1 ls st G = mc_ev X 54 3 ls (.int 12 :: st) G) ∧
  (∀ (x y : Int32) (ls st : List Value) (G : mc_H), mc_ev X 54 3 ls (.int y :: .int x :: st) G = mc_ev X 54 4 ls (.int (x * y) :: st) G) ∧
  (∀ (v0 v1 : Value) (x : Int32) (st : List Value) (G : mc_H), mc_ev X 54 4 [v0, v1, .int x] st G = mc_ev X 54 5 [v0, v1, .int x] (.int x :: st) G) ∧
  (∀ (x y : Int32) (ls st : List Value) (G : mc_H), mc_ev X 54 5 ls (.int y :: .int x :: st) G = mc_ev X 54 6 ls (.int (x + y) :: st) G) ∧
  (∀ (v : Int32) (ls : List Value) (G : mc_H), mc_ev X 54 6 ls [.int v] G = some (some (.int v), G)) := ⟨fun v0 v2 x st G => ev_iload_n rfl rfl,
  fun ls st G => ev_bipush rfl rfl,
  fun x y ls st G => ev_imul rfl,
  fun v0 v1 x st G => ev_iload_n rfl rfl,
  fun x y ls st G => ev_iadd rfl,
  fun v ls G => ev_ireturn rfl rfl⟩
theorem e_55 {X : mc_X} : (∀ (v1 v2 : Value) (x : Nat) (st : List Value) (G : mc_H), mc_ev X 55 0 [.ref x, v1, v2] st G = mc_ev X 55 1 [.ref x, v1, v2] (.ref x :: st) G) ∧
  (∀ (r : Nat) (ls st : List Value) (G : mc_H), mc_ev X 55 1 ls (.ref r :: st) G = (mc_getf G r 6 3).bind (fun v => mc_ev X 55 4 ls (v :: st) G)) ∧
  (∀ (v1 v2 : Value) (x : Nat) (st : List Value) (G : mc_H), mc_ev X 55 4 [.ref x, v1, v2] st G = mc_ev X 55 5 [.ref x, v1, v2] (.ref x :: st) G) ∧
  (∀ (v0 v2 : Value) (x : Int32) (st : List Value) (G : mc_H), mc_ev X 55 5 [v0, .int x, v2] st G = mc_ev X 55 6 [v0, .int x, v2] (.int x :: st) G) ∧
  (∀ (v0 v1 : Value) (x : Int32) (st : List Value) (G : mc_H), mc_ev X 55 6 [v0, v1, .int x] st G = mc_ev X 55 7 [v0, v1, .int x] (.int x :: st) G) ∧
  (∀ (a0 : Int32) (a1 : Int32) (r : Nat) (ls st : List Value) (G : mc_H), st.length ≤ 4 → mc_cls G r = some 6 → mc_ev X 55 7 ls (.int a1 :: .int a0 :: .ref r :: st) G = (mc_ev X 54 0 [.ref r, .int a0, .int a1] [] G).bind (fun q => mc_ev X 55 10 ls (q.1.toList ++ st) q.2)) ∧
  (∀ (i : Int32) (r : Value) (ls st : List Value) (G : mc_H), mc_ev X 55 10 ls (.int i :: r :: st) G = (mc_getA X G 0 r i).bind (fun x => mc_ev X 55 11 ls (.int x :: st) G)) ∧
  (∀ (v : Int32) (ls : List Value) (G : mc_H), mc_ev X 55 11 ls [.int v] G = some (some (.int v), G)) := ⟨fun v1 v2 x st G => ev_aload_n rfl rfl,
  fun r ls st G => ev_getfield rfl,
  fun v1 v2 x st G => ev_aload_n rfl rfl,
  fun v0 v2 x st G => ev_iload_n rfl rfl,
  fun v0 v1 x st G => ev_iload_n rfl rfl,
  fun a0 a1 r ls st G hr hG => ev_virt (As := [.int a0, .int a1]) rfl rfl rfl rfl rfl rfl hr hG,
  fun i r ls st G => ev_iaload rfl,
  fun v ls G => ev_ireturn rfl rfl⟩
theorem e_56 {X : mc_X} : (∀ (v1 v2 : Value) (x : Nat) (st : List Value) (G : mc_H), mc_ev X 56 0 [.ref x, v1, v2] st G = mc_ev X 56 1 [.ref x, v1, v2] (.ref x :: st) G) ∧
  (∀ (v0 v2 : Value) (x : Int32) (st : List Value) (G : mc_H), mc_ev X 56 1 [v0, .int x, v2] st G = mc_ev X 56 2 [v0, .int x, v2] (.int x :: st) G) ∧
  (∀ (a0 : Int32) (r : Nat) (ls st : List Value) (G : mc_H), st.length ≤ 4 → mc_cls G r = some 6 → mc_ev X 56 2 ls (.int a0 :: .ref r :: st) G = (mc_ev X 51 0 [.ref r, .int a0] [] G).bind (fun q => mc_ev X 56 5 ls (q.1.toList ++ st) q.2)) ∧
  (∀ (x : Int32) (ls st : List Value) (G : mc_H), mc_ev X 56 5 ls (.int x :: st) G = if x = 0 then mc_ev X 56 11 ls st G else mc_ev X 56 8 ls st G) ∧
  (∀ (ls st : List Value) (G : mc_H), mc_ev X 56 8 ls st G = mc_ev X 56 10 ls (.int (-12) :: st) G) ∧
  (∀ (v : Int32) (ls : List Value) (G : mc_H), mc_ev X 56 10 ls [.int v] G = some (some (.int v), G)) ∧
  (∀ (v1 v2 : Value) (x : Nat) (st : List Value) (G : mc_H), mc_ev X 56 11 [.ref x, v1, v2] st G = mc_ev X 56 12 [.ref x, v1, v2] (.ref x :: st) G) ∧
  (∀ (v0 v2 : Value) (x : Int32) (st : List Value) (G : mc_H), mc_ev X 56 12 [v0, .int x, v2] st G = mc_ev X 56 13 [v0, .int x, v2] (.int x :: st) G) ∧
  (∀ (a0 : Int32) (r : Nat) (ls st : List Value) (G : mc_H), st.length ≤ 4 → mc_cls G r = some 6 → mc_ev X 56 13 ls (.int a0 :: .ref r :: st) G = (mc_ev X 52 0 [.ref r, .int a0] [] G).bind (fun q => mc_ev X 56 16 ls (q.1.toList ++ st) q.2)) ∧
  (∀ (x : Int32) (ls st : List Value) (G : mc_H), mc_ev X 56 16 ls (.int x :: st) G = if x = 0 then mc_ev X 56 22 ls st G else mc_ev X 56 19 ls st G) ∧
  (∀ (ls st : List Value) (G : mc_H), mc_ev X 56 19 ls st G = mc_ev X 56 21 ls (.int (-11) :: st) G) ∧
  (∀ (v : Int32) (ls : List Value) (G : mc_H), mc_ev X 56 21 ls [.int v] G = some (some (.int v), G)) ∧
  (∀ (v0 v1 : Value) (x : Int32) (st : List Value) (G : mc_H), mc_ev X 56 22 [v0, v1, .int x] st G = mc_ev X 56 23 [v0, v1, .int x] (.int x :: st) G) ∧
  (∀ (x : Int32) (ls st : List Value) (G : mc_H), mc_ev X 56 23 ls (.int x :: st) G = if x < 0 then mc_ev X 56 36 ls st G else mc_ev X 56 26 ls st G) ∧
  (∀ (v0 v1 : Value) (x : Int32) (st : List Value) (G : mc_H), mc_ev X 56 26 [v0, v1, .int x] st G = mc_ev X 56 27 [v0, v1, .int x] (.int x :: st) G) ∧
  (∀ (v1 v2 : Value) (x : Nat) (st : List Value) (G : mc_H), mc_ev X 56 27 [.ref x, v1, v2] st G = mc_ev X 56 28 [.ref x, v1, v2] (.ref x :: st) G) ∧
  (∀ (r : Nat) (ls st : List Value) (G : mc_H), mc_ev X 56 28 ls (.ref r :: st) G = (mc_getf G r 6 2).bind (fun v => mc_ev X 56 31 ls (v :: st) G)) ∧
  (∀ (v0 v2 : Value) (x : Int32) (st : List Value) (G : mc_H), mc_ev X 56 31 [v0, .int x, v2] st G = mc_ev X 56 32 [v0, .int x, v2] (.int x :: st) G) ∧
  (∀ (i : Int32) (r : Value) (ls st : List Value) (G : mc_H), mc_ev X 56 32 ls (.int i :: r :: st) G = (mc_getA X G 0 r i).bind (fun x => mc_ev X 56 33 ls (.int x :: st) G)) ∧
  (∀ (x y : Int32) (ls st : List Value) (G : mc_H), mc_ev X 56 33 ls (.int y :: .int x :: st) G = if x < y then mc_ev X 56 41 ls st G else mc_ev X 56 36 ls st G) ∧
  (∀ (ls st : List Value) (G : mc_H), mc_ev X 56 36 ls st G = mc_ev X 56 38 ls (.int (-12) :: st) G) ∧
  (∀ (ls st : List Value) (G : mc_H), mc_ev X 56 38 ls st G = mc_ev X 56 42 ls st G) ∧
  (∀ (ls st : List Value) (G : mc_H), mc_ev X 56 41 ls st G = mc_ev X 56 42 ls (.int 0 :: st) G) ∧
  (∀ (v : Int32) (ls : List Value) (G : mc_H), mc_ev X 56 42 ls [.int v] G = some (some (.int v), G)) := ⟨fun v1 v2 x st G => ev_aload_n rfl rfl,
  fun v0 v2 x st G => ev_iload_n rfl rfl,
  fun a0 r ls st G hr hG => ev_virt (As := [.int a0]) rfl rfl rfl rfl rfl rfl hr hG,
  fun x ls st G => ev_br rfl rfl,
  fun ls st G => ev_bipush rfl rfl,
  fun v ls G => ev_ireturn rfl rfl,
  fun v1 v2 x st G => ev_aload_n rfl rfl,
  fun v0 v2 x st G => ev_iload_n rfl rfl,
  fun a0 r ls st G hr hG => ev_virt (As := [.int a0]) rfl rfl rfl rfl rfl rfl hr hG,
  fun x ls st G => ev_br rfl rfl,
  fun ls st G => ev_bipush rfl rfl,
  fun v ls G => ev_ireturn rfl rfl,
  fun v0 v1 x st G => ev_iload_n rfl rfl,
  fun x ls st G => ev_br rfl rfl,
  fun v0 v1 x st G => ev_iload_n rfl rfl,
  fun v1 v2 x st G => ev_aload_n rfl rfl,
  fun r ls st G => ev_getfield rfl,
  fun v0 v2 x st G => ev_iload_n rfl rfl,
  fun i r ls st G => ev_iaload rfl,
  fun x y ls st G => ev_br rfl rfl,
  fun ls st G => ev_bipush rfl rfl,
  fun ls st G => ev_goto rfl rfl,
  fun ls st G => ev_iconst rfl rfl,
  fun v ls G => ev_ireturn rfl rfl⟩
theorem e_57 {X : mc_X} : (∀ (v0 v1 v3 : Value) (x : Int32) (st : List Value) (G : mc_H), mc_ev X 57 0 [v0, v1, .int x, v3] st G = mc_ev X 57 1 [v0, v1, .int x, v3] (.int x :: st) G) ∧
  (∀ (x : Int32) (ls st : List Value) (G : mc_H), mc_ev X 57 1 ls (.int x :: st) G = if x < 0 then mc_ev X 57 30 ls st G else mc_ev X 57 4 ls st G) ∧
  (∀ (v0 v1 v2 : Value) (x : Int32) (st : List Value) (G : mc_H), mc_ev X 57 4 [v0, v1, v2, .int x] st G = mc_ev X 57 5 [v0, v1, v2, .int x] (.int x :: st) G) ∧
  (∀ (x : Int32) (ls st : List Value) (G : mc_H), mc_ev X 57 5 ls (.int x :: st) G = if x < 0 then mc_ev X 57 30 ls st G else mc_ev X 57 8 ls st G) ∧
  (∀ (v0 v1 v3 : Value) (x : Int32) (st : List Value) (G : mc_H), mc_ev X 57 8 [v0, v1, .int x, v3] st G = mc_ev X 57 9 [v0, v1, .int x, v3] (.int x :: st) G) ∧
  (∀ (v1 v2 v3 : Value) (x : Nat) (st : List Value) (G : mc_H), mc_ev X 57 9 [.ref x, v1, v2, v3] st G = mc_ev X 57 10 [.ref x, v1, v2, v3] (.ref x :: st) G) ∧
  (∀ (r : Nat) (ls st : List Value) (G : mc_H), mc_ev X 57 10 ls (.ref r :: st) G = (mc_getf G r 6 2).bind (fun v => mc_ev X 57 13 ls (v :: st) G)) ∧
  (∀ (v0 v2 v3 : Value) (x : Int32) (st : List Value) (G : mc_H), mc_ev X 57 13 [v0, .int x, v2, v3] st G = mc_ev X 57 14 [v0, .int x, v2, v3] (.int x :: st) G) ∧
  (∀ (i : Int32) (r : Value) (ls st : List Value) (G : mc_H), mc_ev X 57 14 ls (.int i :: r :: st) G = (mc_getA X G 0 r i).bind (fun x => mc_ev X 57 15 ls (.int x :: st) G)) ∧
  (∀ (x y : Int32) (ls st : List Value) (G : mc_H), mc_ev X 57 15 ls (.int y :: .int x :: st) G = if y < x then mc_ev X 57 30 ls st G else mc_ev X 57 18 ls st G) ∧
  (∀ (v0 v1 v2 : Value) (x : Int32) (st : List Value) (G : mc_H), mc_ev X 57 18 [v0, v1, v2, .int x] st G = mc_ev X 57 19 [v0, v1, v2, .int x] (.int x :: st) G) ∧
  (∀ (v1 v2 v3 : Value) (x : Nat) (st : List Value) (G : mc_H), mc_ev X 57 19 [.ref x, v1, v2, v3] st G = mc_ev X 57 20 [.ref x, v1, v2, v3] (.ref x :: st) G) ∧
  (∀ (r : Nat) (ls st : List Value) (G : mc_H), mc_ev X 57 20 ls (.ref r :: st) G = (mc_getf G r 6 2).bind (fun v => mc_ev X 57 23 ls (v :: st) G)) ∧
  (∀ (v0 v2 v3 : Value) (x : Int32) (st : List Value) (G : mc_H), mc_ev X 57 23 [v0, .int x, v2, v3] st G = mc_ev X 57 24 [v0, .int x, v2, v3] (.int x :: st) G) ∧
  (∀ (i : Int32) (r : Value) (ls st : List Value) (G : mc_H), mc_ev X 57 24 ls (.int i :: r :: st) G = (mc_getA X G 0 r i).bind (fun x => mc_ev X 57 25 ls (.int x :: st) G)) ∧
  (∀ (v0 v1 v3 : Value) (x : Int32) (st : List Value) (G : mc_H), mc_ev X 57 25 [v0, v1, .int x, v3] st G = mc_ev X 57 26 [v0, v1, .int x, v3] (.int x :: st) G) ∧
  (∀ (x y : Int32) (ls st : List Value) (G : mc_H), mc_ev X 57 26 ls (.int y :: .int x :: st) G = mc_ev X 57 27 ls (.int (x - y) :: st) G) ∧
  (∀ (x y : Int32) (ls st : List Value) (G : mc_H), mc_ev X 57 27 ls (.int y :: .int x :: st) G = if y < x then mc_ev X 57 30 ls st G else mc_ev X 57 34 ls st G) ∧
  (∀ (ls st : List Value) (G : mc_H), mc_ev X 57 30 ls st G = mc_ev X 57 31 ls (.int 1 :: st) G) ∧
  (∀ (ls st : List Value) (G : mc_H), mc_ev X 57 31 ls st G = mc_ev X 57 35 ls st G) ∧
  (∀ (ls st : List Value) (G : mc_H), mc_ev X 57 34 ls st G = mc_ev X 57 35 ls (.int 0 :: st) G) ∧
  (∀ (v : Int32) (ls : List Value) (G : mc_H), (v = 0 ∨ v = 1) → mc_ev X 57 35 ls [.int v] G = some (some (.int v), G)) := ⟨fun v0 v1 v3 x st G => ev_iload_n rfl rfl,
  fun x ls st G => ev_br rfl rfl,
  fun v0 v1 v2 x st G => ev_iload_n rfl rfl,
  fun x ls st G => ev_br rfl rfl,
  fun v0 v1 v3 x st G => ev_iload_n rfl rfl,
  fun v1 v2 v3 x st G => ev_aload_n rfl rfl,
  fun r ls st G => ev_getfield rfl,
  fun v0 v2 v3 x st G => ev_iload_n rfl rfl,
  fun i r ls st G => ev_iaload rfl,
  fun x y ls st G => ev_br rfl rfl,
  fun v0 v1 v2 x st G => ev_iload_n rfl rfl,
  fun v1 v2 v3 x st G => ev_aload_n rfl rfl,
  fun r ls st G => ev_getfield rfl,
  fun v0 v2 v3 x st G => ev_iload_n rfl rfl,
  fun i r ls st G => ev_iaload rfl,
  fun v0 v1 v3 x st G => ev_iload_n rfl rfl,
  fun x y ls st G => ev_isub rfl,
  fun x y ls st G => ev_br rfl rfl,
  fun ls st G => ev_iconst rfl rfl,
  fun ls st G => ev_goto rfl rfl,
  fun ls st G => ev_iconst rfl rfl,
  fun v ls G hv => ev_zreturn rfl rfl hv⟩
theorem e_58 {X : mc_X} : (∀ (v1 v2 v3 : Value) (x : Nat) (st : List Value) (G : mc_H), mc_ev X 58 0 [.ref x, v1, v2, v3] st G = mc_ev X 58 1 [.ref x, v1, v2, v3] (.ref x :: st) G) ∧
  (∀ (r : Nat) (ls st : List Value) (G : mc_H), mc_ev X 58 1 ls (.ref r :: st) G = (mc_getf G r 6 3).bind (fun v => mc_ev X 58 4 ls (v :: st) G)) ∧
  (∀ (v1 v2 v3 : Value) (x : Nat) (st : List Value) (G : mc_H), mc_ev X 58 4 [.ref x, v1, v2, v3] st G = mc_ev X 58 5 [.ref x, v1, v2, v3] (.ref x :: st) G) ∧
  (∀ (v0 v2 v3 : Value) (x : Int32) (st : List Value) (G : mc_H), mc_ev X 58 5 [v0, .int x, v2, v3] st G = mc_ev X 58 6 [v0, .int x, v2, v3] (.int x :: st) G) ∧
  (∀ (v0 v1 v3 : Value) (x : Int32) (st : List Value) (G : mc_H), mc_ev X 58 6 [v0, v1, .int x, v3] st G = mc_ev X 58 7 [v0, v1, .int x, v3] (.int x :: st) G) ∧
  (∀ (a0 : Int32) (a1 : Int32) (r : Nat) (ls st : List Value) (G : mc_H), st.length ≤ 4 → mc_cls G r = some 6 → mc_ev X 58 7 ls (.int a1 :: .int a0 :: .ref r :: st) G = (mc_ev X 54 0 [.ref r, .int a0, .int a1] [] G).bind (fun q => mc_ev X 58 10 ls (q.1.toList ++ st) q.2)) ∧
  (∀ (v1 v2 v3 : Value) (x : Nat) (st : List Value) (G : mc_H), mc_ev X 58 10 [.ref x, v1, v2, v3] st G = mc_ev X 58 11 [.ref x, v1, v2, v3] (.ref x :: st) G) ∧
  (∀ (v0 v1 v2 : Value) (x : Int32) (st : List Value) (G : mc_H), mc_ev X 58 11 [v0, v1, v2, .int x] st G = mc_ev X 58 12 [v0, v1, v2, .int x] (.int x :: st) G) ∧
  (∀ (a0 : Int32) (r : Nat) (ls st : List Value) (G : mc_H), st.length ≤ 4 → mc_cls G r = some 6 → mc_ev X 58 12 ls (.int a0 :: .ref r :: st) G = (mc_ev X 59 0 [.ref r, .int a0] [] G).bind (fun q => mc_ev X 58 15 ls (q.1.toList ++ st) q.2)) ∧
  (∀ (x i : Int32) (r : Nat) (ls st : List Value) (G : mc_H), mc_ev X 58 15 ls (.int x :: .int i :: .ref r :: st) G = (mc_setA G 0 r i x).bind (fun G' => mc_ev X 58 16 ls st G')) ∧
  (∀ (ls : List Value) (G : mc_H), mc_ev X 58 16 ls [] G = some (none, G)) := ⟨fun v1 v2 v3 x st G => ev_aload_n rfl rfl,
  fun r ls st G => ev_getfield rfl,
  fun v1 v2 v3 x st G => ev_aload_n rfl rfl,
  fun v0 v2 v3 x st G => ev_iload_n rfl rfl,
  fun v0 v1 v3 x st G => ev_iload_n rfl rfl,
  fun a0 a1 r ls st G hr hG => ev_virt (As := [.int a0, .int a1]) rfl rfl rfl rfl rfl rfl hr hG,
  fun v1 v2 v3 x st G => ev_aload_n rfl rfl,
  fun v0 v1 v2 x st G => ev_iload_n rfl rfl,
  fun a0 r ls st G hr hG => ev_virt (As := [.int a0]) rfl rfl rfl rfl rfl rfl hr hG,
  fun x i r ls st G => ev_iastore rfl,
  fun ls G => ev_return rfl rfl⟩
theorem e_59 {X : mc_X} : (∀ (v1 : Value) (x : Nat) (st : List Value) (G : mc_H), mc_ev X 59 0 [.ref x, v1] st G = mc_ev X 59 1 [.ref x, v1] (.ref x :: st) G) ∧
  (∀ (r : Nat) (ls st : List Value) (G : mc_H), mc_ev X 59 1 ls (.ref r :: st) G = (mc_getf G r 6 0).bind (fun v => mc_ev X 59 4 ls (v :: st) G)) ∧
  (∀ (v0 : Value) (x : Int32) (st : List Value) (G : mc_H), mc_ev X 59 32 [v0, .int x] st G = mc_ev X 59 33 [v0, .int x] (.int x :: st) G) ∧
  (∀ (x : Int32) (ls st : List Value) (G : mc_H), mc_ev X 59 33 ls (.int x :: st) G = mc_ev X 59 34 ls (.int (x.toInt8.toInt32) :: st) G) ∧
  (∀ (v : Int32) (ls : List Value) (G : mc_H), mc_ev X 59 34 ls [.int v] G = some (some (.int v), G)) ∧
  (∀ (v0 : Value) (x : Int32) (st : List Value) (G : mc_H), mc_ev X 59 35 [v0, .int x] st G = mc_ev X 59 36 [v0, .int x] (.int x :: st) G) ∧
  (∀ (x : Int32) (ls st : List Value) (G : mc_H), mc_ev X 59 36 ls (.int x :: st) G = mc_ev X 59 37 ls (.int (x.toInt16.toInt32) :: st) G) ∧
  (∀ (v : Int32) (ls : List Value) (G : mc_H), mc_ev X 59 37 ls [.int v] G = some (some (.int v), G)) ∧
  (∀ (v0 : Value) (x : Int32) (st : List Value) (G : mc_H), mc_ev X 59 38 [v0, .int x] st G = mc_ev X 59 39 [v0, .int x] (.int x :: st) G) ∧
  (∀ (v : Int32) (ls : List Value) (G : mc_H), mc_ev X 59 39 ls [.int v] G = some (some (.int v), G)) := ⟨fun v1 x st G => ev_aload_n rfl rfl,
  fun r ls st G => ev_getfield rfl,
  fun v0 x st G => ev_iload_n rfl rfl,
  fun x ls st G => ev_i2b rfl,
  fun v ls G => ev_ireturn rfl rfl,
  fun v0 x st G => ev_iload_n rfl rfl,
  fun x ls st G => ev_i2s rfl,
  fun v ls G => ev_ireturn rfl rfl,
  fun v0 x st G => ev_iload_n rfl rfl,
  fun v ls G => ev_ireturn rfl rfl⟩
