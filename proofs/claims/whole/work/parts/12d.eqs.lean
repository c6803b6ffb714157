set_option maxRecDepth 100000 in
theorem e_112 {X : mc_X} : (∀ (v1 v2 : Value) (x : Int32) (st : List Value) (G : mc_H), mc_ev X 112 0 [.int x, v1, v2] st G = mc_ev X 112 1 [.int x, v1, v2] (.int x :: st) G) ∧
  (∀ (v0 v2 : Value) (x : Int32) (st : List Value) (G : mc_H), mc_ev X 112 1 [v0, .int x, v2] st G = mc_ev X 112 2 [v0, .int x, v2] (.int x :: st) G) ∧
  (∀ (x y : Int32) (ls st : List Value) (G : mc_H), mc_ev X 112 2 ls (.int y :: .int x :: st) G = if x < y then mc_ev X 112 14 ls st G else mc_ev X 112 5 ls st G) ∧
  (∀ (v1 v2 : Value) (x : Int32) (st : List Value) (G : mc_H), mc_ev X 112 5 [.int x, v1, v2] st G = mc_ev X 112 6 [.int x, v1, v2] (.int x :: st) G) ∧
  (∀ (v0 v1 : Value) (x : Int32) (st : List Value) (G : mc_H), mc_ev X 112 6 [v0, v1, .int x] st G = mc_ev X 112 7 [v0, v1, .int x] (.int x :: st) G) ∧
  (∀ (x y : Int32) (ls st : List Value) (G : mc_H), mc_ev X 112 7 ls (.int y :: .int x :: st) G = if y < x then mc_ev X 112 14 ls st G else mc_ev X 112 10 ls st G) ∧
  (∀ (ls st : List Value) (G : mc_H), mc_ev X 112 10 ls st G = mc_ev X 112 11 ls (.int 1 :: st) G) ∧
  (∀ (ls st : List Value) (G : mc_H), mc_ev X 112 11 ls st G = mc_ev X 112 15 ls st G) ∧
  (∀ (ls st : List Value) (G : mc_H), mc_ev X 112 14 ls st G = mc_ev X 112 15 ls (.int 0 :: st) G) ∧
  (∀ (v : Int32) (ls : List Value) (G : mc_H), (v = 0 ∨ v = 1) → mc_ev X 112 15 ls [.int v] G = some (some (.int v), G)) := ⟨fun v1 v2 x st G => ev_iload_n rfl rfl,
  fun v0 v2 x st G => ev_iload_n rfl rfl,
  fun x y ls st G => ev_br rfl rfl,
  fun v1 v2 x st G => ev_iload_n rfl rfl,
  fun v0 v1 x st G => ev_iload_n rfl rfl,
  fun x y ls st G => ev_br rfl rfl,
  fun ls st G => ev_iconst rfl rfl,
  fun ls st G => ev_goto rfl rfl,
  fun ls st G => ev_iconst rfl rfl,
  fun v ls G hv => ev_zreturn rfl rfl hv⟩
set_option maxRecDepth 100000 in
theorem e_113 {X : mc_X} : (∀ (x : Nat) (st : List Value) (G : mc_H), mc_ev X 113 0 [.ref x] st G = mc_ev X 113 1 [.ref x] (.ref x :: st) G) ∧
  (∀ (r : Nat) (ls st : List Value) (G : mc_H), mc_ev X 113 1 ls (.ref r :: st) G = (mc_getf G r 8 3).bind (fun v => mc_ev X 113 4 ls (v :: st) G)) ∧
  (∀ (x : Nat) (st : List Value) (G : mc_H), mc_ev X 113 4 [.ref x] st G = mc_ev X 113 5 [.ref x] (.ref x :: st) G) ∧
  (∀ (r : Nat) (ls st : List Value) (G : mc_H), mc_ev X 113 5 ls (.ref r :: st) G = (mc_getf G r 8 4).bind (fun v => mc_ev X 113 8 ls (v :: st) G)) ∧
  (∀ (x y : Int32) (ls st : List Value) (G : mc_H), mc_ev X 113 8 ls (.int y :: .int x :: st) G = mc_ev X 113 9 ls (.int (x * y) :: st) G) ∧
  (∀ (v : Int32) (ls : List Value) (G : mc_H), mc_ev X 113 9 ls [.int v] G = some (some (.int v), G)) := ⟨fun  x st G => ev_aload_n rfl rfl,
  fun r ls st G => ev_getfield rfl,
  fun  x st G => ev_aload_n rfl rfl,
  fun r ls st G => ev_getfield rfl,
  fun x y ls st G => ev_imul rfl,
  fun v ls G => ev_ireturn rfl rfl⟩
set_option maxRecDepth 100000 in
theorem e_114 {X : mc_X} : (∀ (x : Nat) (st : List Value) (G : mc_H), mc_ev X 114 0 [.ref x] st G = mc_ev X 114 1 [.ref x] (.ref x :: st) G) ∧
  (∀ (r : Nat) (ls st : List Value) (G : mc_H), mc_ev X 114 1 ls (.ref r :: st) G = (mc_getf G r 8 3).bind (fun v => mc_ev X 114 4 ls (v :: st) G)) ∧
  (∀ (x : Nat) (st : List Value) (G : mc_H), mc_ev X 114 4 [.ref x] st G = mc_ev X 114 5 [.ref x] (.ref x :: st) G) ∧
  (∀ (r : Nat) (ls st : List Value) (G : mc_H), mc_ev X 114 5 ls (.ref r :: st) G = (mc_getf G r 8 4).bind (fun v => mc_ev X 114 8 ls (v :: st) G)) ∧
  (∀ (ls st : List Value) (G : mc_H), mc_ev X 114 8 ls st G = mc_ev X 114 9 ls (.int 1 :: st) G) ∧
  (∀ (x y : Int32) (ls st : List Value) (G : mc_H), mc_ev X 114 9 ls (.int y :: .int x :: st) G = mc_ev X 114 10 ls (.int (x - y) :: st) G) ∧
  (∀ (x y : Int32) (ls st : List Value) (G : mc_H), mc_ev X 114 10 ls (.int y :: .int x :: st) G = mc_ev X 114 11 ls (.int (x * y) :: st) G) ∧
  (∀ (v : Int32) (ls : List Value) (G : mc_H), mc_ev X 114 11 ls [.int v] G = some (some (.int v), G)) := ⟨fun  x st G => ev_aload_n rfl rfl,
  fun r ls st G => ev_getfield rfl,
  fun  x st G => ev_aload_n rfl rfl,
  fun r ls st G => ev_getfield rfl,
  fun ls st G => ev_iconst rfl rfl,
  fun x y ls st G => ev_isub rfl,
  fun x y ls st G => ev_imul rfl,
  fun v ls G => ev_ireturn rfl rfl⟩
set_option maxRecDepth 100000 in
theorem e_115 {X : mc_X} : (∀ (x : Nat) (st : List Value) (G : mc_H), mc_ev X 115 0 [.ref x] st G = mc_ev X 115 1 [.ref x] (.ref x :: st) G) ∧
  (∀ (r : Nat) (ls st : List Value) (G : mc_H), st.length ≤ 4 → mc_cls G r = some 8 → mc_ev X 115 1 ls (.ref r :: st) G = (mc_ev X 114 0 [.ref r] [] G).bind (fun q => mc_ev X 115 4 ls (q.1.toList ++ st) q.2)) ∧
  (∀ (x : Nat) (st : List Value) (G : mc_H), mc_ev X 115 4 [.ref x] st G = mc_ev X 115 5 [.ref x] (.ref x :: st) G) ∧
  (∀ (r : Nat) (ls st : List Value) (G : mc_H), mc_ev X 115 5 ls (.ref r :: st) G = (mc_getf G r 8 3).bind (fun v => mc_ev X 115 8 ls (v :: st) G)) ∧
  (∀ (ls st : List Value) (G : mc_H), mc_ev X 115 8 ls st G = mc_ev X 115 9 ls (.int 1 :: st) G) ∧
  (∀ (x y : Int32) (ls st : List Value) (G : mc_H), mc_ev X 115 9 ls (.int y :: .int x :: st) G = mc_ev X 115 10 ls (.int (x - y) :: st) G) ∧
  (∀ (x : Nat) (st : List Value) (G : mc_H), mc_ev X 115 10 [.ref x] st G = mc_ev X 115 11 [.ref x] (.ref x :: st) G) ∧
  (∀ (r : Nat) (ls st : List Value) (G : mc_H), mc_ev X 115 11 ls (.ref r :: st) G = (mc_getf G r 8 4).bind (fun v => mc_ev X 115 14 ls (v :: st) G)) ∧
  (∀ (x y : Int32) (ls st : List Value) (G : mc_H), mc_ev X 115 14 ls (.int y :: .int x :: st) G = mc_ev X 115 15 ls (.int (x * y) :: st) G) ∧
  (∀ (x y : Int32) (ls st : List Value) (G : mc_H), mc_ev X 115 15 ls (.int y :: .int x :: st) G = mc_ev X 115 16 ls (.int (x + y) :: st) G) ∧
  (∀ (v : Int32) (ls : List Value) (G : mc_H), mc_ev X 115 16 ls [.int v] G = some (some (.int v), G)) := ⟨fun  x st G => ev_aload_n rfl rfl,
  fun r ls st G hr hG => ev_virt (As := []) rfl rfl rfl rfl rfl rfl hr hG,
  fun  x st G => ev_aload_n rfl rfl,
  fun r ls st G => ev_getfield rfl,
  fun ls st G => ev_iconst rfl rfl,
  fun x y ls st G => ev_isub rfl,
  fun  x st G => ev_aload_n rfl rfl,
  fun r ls st G => ev_getfield rfl,
  fun x y ls st G => ev_imul rfl,
  fun x y ls st G => ev_iadd rfl,
  fun v ls G => ev_ireturn rfl rfl⟩
set_option maxRecDepth 100000 in
theorem e_116 {X : mc_X} : (∀ (x : Nat) (st : List Value) (G : mc_H), mc_ev X 116 0 [.ref x] st G = mc_ev X 116 1 [.ref x] (.ref x :: st) G) ∧
  (∀ (r : Nat) (ls st : List Value) (G : mc_H), mc_ev X 116 1 ls (.ref r :: st) G = (mc_getf G r 8 3).bind (fun v => mc_ev X 116 4 ls (v :: st) G)) ∧
  (∀ (ls st : List Value) (G : mc_H), mc_ev X 116 4 ls st G = mc_ev X 116 5 ls (.int 1 :: st) G) ∧
  (∀ (x y : Int32) (ls st : List Value) (G : mc_H), mc_ev X 116 5 ls (.int y :: .int x :: st) G = mc_ev X 116 6 ls (.int (x - y) :: st) G) ∧
  (∀ (x : Nat) (st : List Value) (G : mc_H), mc_ev X 116 6 [.ref x] st G = mc_ev X 116 7 [.ref x] (.ref x :: st) G) ∧
  (∀ (r : Nat) (ls st : List Value) (G : mc_H), mc_ev X 116 7 ls (.ref r :: st) G = (mc_getf G r 8 4).bind (fun v => mc_ev X 116 10 ls (v :: st) G)) ∧
  (∀ (ls st : List Value) (G : mc_H), mc_ev X 116 10 ls st G = mc_ev X 116 11 ls (.int 1 :: st) G) ∧
  (∀ (x y : Int32) (ls st : List Value) (G : mc_H), mc_ev X 116 11 ls (.int y :: .int x :: st) G = mc_ev X 116 12 ls (.int (x - y) :: st) G) ∧
  (∀ (x y : Int32) (ls st : List Value) (G : mc_H), mc_ev X 116 12 ls (.int y :: .int x :: st) G = mc_ev X 116 13 ls (.int (x * y) :: st) G) ∧
  (∀ (ls st : List Value) (G : mc_H), mc_ev X 116 13 ls st G = mc_ev X 116 14 ls (.int 1 :: st) G) ∧
  (∀ (x y : Int32) (ls st : List Value) (G : mc_H), mc_ev X 116 14 ls (.int y :: .int x :: st) G = mc_ev X 116 15 ls (.int (x + y) :: st) G) ∧
  (∀ (v : Int32) (ls : List Value) (G : mc_H), mc_ev X 116 15 ls [.int v] G = some (some (.int v), G)) := ⟨fun  x st G => ev_aload_n rfl rfl,
  fun r ls st G => ev_getfield rfl,
  fun ls st G => ev_iconst rfl rfl,
  fun x y ls st G => ev_isub rfl,
  fun  x st G => ev_aload_n rfl rfl,
  fun r ls st G => ev_getfield rfl,
  fun ls st G => ev_iconst rfl rfl,
  fun x y ls st G => ev_isub rfl,
  fun x y ls st G => ev_imul rfl,
  fun ls st G => ev_iconst rfl rfl,
  fun x y ls st G => ev_iadd rfl,
  fun v ls G => ev_ireturn rfl rfl⟩
set_option maxRecDepth 100000 in
theorem e_117 {X : mc_X} : (∀ (v0 : Value) (x : Int32) (st : List Value) (G : mc_H), mc_ev X 117 0 [v0, .int x] st G = mc_ev X 117 1 [v0, .int x] (.int x :: st) G) ∧
  (∀ (ls st : List Value) (G : mc_H), mc_ev X 117 1 ls st G = mc_ev X 117 2 ls (.int 0 :: st) G) ∧
  (∀ (v1 : Value) (x : Nat) (st : List Value) (G : mc_H), mc_ev X 117 2 [.ref x, v1] st G = mc_ev X 117 3 [.ref x, v1] (.ref x :: st) G) ∧
  (∀ (r : Nat) (ls st : List Value) (G : mc_H), st.length ≤ 4 → mc_cls G r = some 8 → mc_ev X 117 3 ls (.ref r :: st) G = (mc_ev X 113 0 [.ref r] [] G).bind (fun q => mc_ev X 117 6 ls (q.1.toList ++ st) q.2)) ∧
  (∀ (ls st : List Value) (G : mc_H), mc_ev X 117 6 ls st G = mc_ev X 117 7 ls (.int 1 :: st) G) ∧
  (∀ (x y : Int32) (ls st : List Value) (G : mc_H), mc_ev X 117 7 ls (.int y :: .int x :: st) G = mc_ev X 117 8 ls (.int (x - y) :: st) G) ∧
  (∀ (a0 : Int32) (a1 : Int32) (a2 : Int32) (ls st : List Value) (G : mc_H), st.length ≤ 4 → mc_ev X 117 8 ls (.int a2 :: .int a1 :: .int a0 :: st) G = (mc_ev X 112 0 [.int a0, .int a1, .int a2] [] G).bind (fun q => mc_ev X 117 11 ls (q.1.toList ++ st) q.2)) ∧
  (∀ (v : Int32) (ls : List Value) (G : mc_H), (v = 0 ∨ v = 1) → mc_ev X 117 11 ls [.int v] G = some (some (.int v), G)) := ⟨fun v0 x st G => ev_iload_n rfl rfl,
  fun ls st G => ev_iconst rfl rfl,
  fun v1 x st G => ev_aload_n rfl rfl,
  fun r ls st G hr hG => ev_virt (As := []) rfl rfl rfl rfl rfl rfl hr hG,
  fun ls st G => ev_iconst rfl rfl,
  fun x y ls st G => ev_isub rfl,
  fun a0 a1 a2 ls st G hr => ev_stat (As := [.int a0, .int a1, .int a2]) rfl (by decide) rfl rfl rfl rfl hr,
  fun v ls G hv => ev_zreturn rfl rfl hv⟩
set_option maxRecDepth 100000 in
theorem e_118 {X : mc_X} : (∀ (v0 : Value) (x : Int32) (st : List Value) (G : mc_H), mc_ev X 118 0 [v0, .int x] st G = mc_ev X 118 1 [v0, .int x] (.int x :: st) G) ∧
  (∀ (ls st : List Value) (G : mc_H), mc_ev X 118 1 ls st G = mc_ev X 118 2 ls (.int 0 :: st) G) ∧
  (∀ (v1 : Value) (x : Nat) (st : List Value) (G : mc_H), mc_ev X 118 2 [.ref x, v1] st G = mc_ev X 118 3 [.ref x, v1] (.ref x :: st) G) ∧
  (∀ (r : Nat) (ls st : List Value) (G : mc_H), st.length ≤ 4 → mc_cls G r = some 8 → mc_ev X 118 3 ls (.ref r :: st) G = (mc_ev X 115 0 [.ref r] [] G).bind (fun q => mc_ev X 118 6 ls (q.1.toList ++ st) q.2)) ∧
  (∀ (ls st : List Value) (G : mc_H), mc_ev X 118 6 ls st G = mc_ev X 118 7 ls (.int 1 :: st) G) ∧
  (∀ (x y : Int32) (ls st : List Value) (G : mc_H), mc_ev X 118 7 ls (.int y :: .int x :: st) G = mc_ev X 118 8 ls (.int (x - y) :: st) G) ∧
  (∀ (a0 : Int32) (a1 : Int32) (a2 : Int32) (ls st : List Value) (G : mc_H), st.length ≤ 4 → mc_ev X 118 8 ls (.int a2 :: .int a1 :: .int a0 :: st) G = (mc_ev X 112 0 [.int a0, .int a1, .int a2] [] G).bind (fun q => mc_ev X 118 11 ls (q.1.toList ++ st) q.2)) ∧
  (∀ (v : Int32) (ls : List Value) (G : mc_H), (v = 0 ∨ v = 1) → mc_ev X 118 11 ls [.int v] G = some (some (.int v), G)) := ⟨fun v0 x st G => ev_iload_n rfl rfl,
  fun ls st G => ev_iconst rfl rfl,
  fun v1 x st G => ev_aload_n rfl rfl,
  fun r ls st G hr hG => ev_virt (As := []) rfl rfl rfl rfl rfl rfl hr hG,
  fun ls st G => ev_iconst rfl rfl,
  fun x y ls st G => ev_isub rfl,
  fun a0 a1 a2 ls st G hr => ev_stat (As := [.int a0, .int a1, .int a2]) rfl (by decide) rfl rfl rfl rfl hr,
  fun v ls G hv => ev_zreturn rfl rfl hv⟩
set_option maxRecDepth 100000 in
theorem h_119_11 {X : mc_X} : ∀ (v0 v2 : Value) (x : Int32) (st : List Value) (G : mc_H), mc_ev X 119 11 [v0, .int x, v2] st G = mc_ev X 119 12 [v0, .int x, v2] (.int x :: st) G := fun v0 v2 x st G => ev_iload_n rfl rfl
set_option maxRecDepth 100000 in
theorem h_119_59 {X : mc_X} : ∀ (v0 v1 : Value) (x : Int32) (st : List Value) (G : mc_H), mc_ev X 119 59 [v0, v1, .int x] st G = mc_ev X 119 60 [v0, v1, .int x] (.int x :: st) G := fun v0 v1 x st G => ev_iload_n rfl rfl
set_option maxRecDepth 100000 in
theorem h_119_151 {X : mc_X} : ∀ (v0 v1 : Value) (x : Int32) (st : List Value) (G : mc_H), mc_ev X 119 151 [v0, v1, .int x] st G = mc_ev X 119 152 [v0, v1, .int x] (.int x :: st) G := fun v0 v1 x st G => ev_iload_n rfl rfl
set_option maxRecDepth 100000 in
theorem e_119 {X : mc_X} : (∀ (v1 v2 : Value) (x : Nat) (st : List Value) (G : mc_H), mc_ev X 119 0 [.ref x, v1, v2] st G = mc_ev X 119 1 [.ref x, v1, v2] (.ref x :: st) G) ∧
  (∀ (r : Nat) (ls st : List Value) (G : mc_H), mc_ev X 119 1 ls (.ref r :: st) G = (mc_getf G r 8 11).bind (fun v => mc_ev X 119 4 ls (v :: st) G)) ∧
  (∀ (ls st : List Value) (G : mc_H), mc_ev X 119 4 ls st G = mc_ev X 119 6 ls (.int 20 :: st) G) ∧
  (∀ (x y : Int32) (ls st : List Value) (G : mc_H), mc_ev X 119 6 ls (.int y :: .int x :: st) G = if x = y then mc_ev X 119 9 ls st G else mc_ev X 119 49 ls st G) ∧
  (∀ (ls st : List Value) (G : mc_H), mc_ev X 119 9 ls st G = mc_ev X 119 10 ls (.int 0 :: st) G) ∧
  (∀ (v0 v1 v2 : Value) (x : Int32) (st : List Value) (G : mc_H), mc_ev X 119 10 [v0, v1, v2] (.int x :: st) G = mc_ev X 119 11 [v0, .int x, v2] st G) ∧
  (∀ (ls st : List Value) (G : mc_H), mc_ev X 119 12 ls st G = mc_ev X 119 15 ls (.int 1368 :: st) G) ∧
  (∀ (x y : Int32) (ls st : List Value) (G : mc_H), mc_ev X 119 15 ls (.int y :: .int x :: st) G = if x < y then mc_ev X 119 18 ls st G else mc_ev X 119 39 ls st G) ∧
  (∀ (v1 v2 : Value) (x : Nat) (st : List Value) (G : mc_H), mc_ev X 119 18 [.ref x, v1, v2] st G = mc_ev X 119 19 [.ref x, v1, v2] (.ref x :: st) G) ∧
  (∀ (r : Nat) (ls st : List Value) (G : mc_H), mc_ev X 119 19 ls (.ref r :: st) G = (mc_getf G r 8 10).bind (fun v => mc_ev X 119 22 ls (v :: st) G)) ∧
  (∀ (v0 v2 : Value) (x : Int32) (st : List Value) (G : mc_H), mc_ev X 119 22 [v0, .int x, v2] st G = mc_ev X 119 23 [v0, .int x, v2] (.int x :: st) G) ∧
  (∀ (v1 v2 : Value) (x : Nat) (st : List Value) (G : mc_H), mc_ev X 119 23 [.ref x, v1, v2] st G = mc_ev X 119 24 [.ref x, v1, v2] (.ref x :: st) G) ∧
  (∀ (r : Nat) (ls st : List Value) (G : mc_H), mc_ev X 119 24 ls (.ref r :: st) G = (mc_getf G r 8 10).bind (fun v => mc_ev X 119 27 ls (v :: st) G)) ∧
  (∀ (v0 v2 : Value) (x : Int32) (st : List Value) (G : mc_H), mc_ev X 119 27 [v0, .int x, v2] st G = mc_ev X 119 28 [v0, .int x, v2] (.int x :: st) G) ∧
  (∀ (ls st : List Value) (G : mc_H), mc_ev X 119 28 ls st G = mc_ev X 119 30 ls (.int 72 :: st) G) ∧
  (∀ (x y : Int32) (ls st : List Value) (G : mc_H), mc_ev X 119 30 ls (.int y :: .int x :: st) G = mc_ev X 119 31 ls (.int (x + y) :: st) G) ∧
  (∀ (i : Int32) (r : Value) (ls st : List Value) (G : mc_H), mc_ev X 119 31 ls (.int i :: r :: st) G = (mc_getA X G 0 r i).bind (fun x => mc_ev X 119 32 ls (.int x :: st) G)) ∧
  (∀ (x i : Int32) (r : Nat) (ls st : List Value) (G : mc_H), mc_ev X 119 32 ls (.int x :: .int i :: .ref r :: st) G = (mc_setA G 0 r i x).bind (fun G' => mc_ev X 119 33 ls st G')) ∧
  (∀ (v0 v2 : Value) (x : Int32) (st : List Value) (G : mc_H), mc_ev X 119 33 [v0, .int x, v2] st G = mc_ev X 119 36 [v0, .int (x + 1), v2] st G) ∧
  (∀ (ls st : List Value) (G : mc_H), mc_ev X 119 36 ls st G = mc_ev X 119 11 ls st G) ∧
  (∀ (v1 v2 : Value) (x : Nat) (st : List Value) (G : mc_H), mc_ev X 119 39 [.ref x, v1, v2] st G = mc_ev X 119 40 [.ref x, v1, v2] (.ref x :: st) G) ∧
  (∀ (x : Nat) (ls st : List Value) (G : mc_H), mc_ev X 119 40 ls (.ref x :: st) G = mc_ev X 119 41 ls (.ref x :: .ref x :: st) G) ∧
  (∀ (r : Nat) (ls st : List Value) (G : mc_H), mc_ev X 119 41 ls (.ref r :: st) G = (mc_getf G r 8 11).bind (fun v => mc_ev X 119 44 ls (v :: st) G)) ∧
  (∀ (ls st : List Value) (G : mc_H), mc_ev X 119 44 ls st G = mc_ev X 119 45 ls (.int 1 :: st) G) ∧
  (∀ (x y : Int32) (ls st : List Value) (G : mc_H), mc_ev X 119 45 ls (.int y :: .int x :: st) G = mc_ev X 119 46 ls (.int (x - y) :: st) G) ∧
  (∀ (v : Value) (r : Nat) (ls st : List Value) (G : mc_H), mc_ev X 119 46 ls (v :: .ref r :: st) G = (mc_setf G r 8 11 v).bind (fun G' => mc_ev X 119 49 ls st G')) ∧
  (∀ (ls st : List Value) (G : mc_H), mc_ev X 119 49 ls st G = mc_ev X 119 51 ls (.int 72 :: st) G) ∧
  (∀ (v1 v2 : Value) (x : Nat) (st : List Value) (G : mc_H), mc_ev X 119 51 [.ref x, v1, v2] st G = mc_ev X 119 52 [.ref x, v1, v2] (.ref x :: st) G) ∧
  (∀ (r : Nat) (ls st : List Value) (G : mc_H), mc_ev X 119 52 ls (.ref r :: st) G = (mc_getf G r 8 11).bind (fun v => mc_ev X 119 55 ls (v :: st) G)) ∧
  (∀ (x y : Int32) (ls st : List Value) (G : mc_H), mc_ev X 119 55 ls (.int y :: .int x :: st) G = mc_ev X 119 56 ls (.int (x * y) :: st) G) ∧
  (∀ (v0 v1 v2 : Value) (x : Int32) (st : List Value) (G : mc_H), mc_ev X 119 56 [v0, v1, v2] (.int x :: st) G = mc_ev X 119 57 [v0, .int x, v2] st G) ∧
  (∀ (ls st : List Value) (G : mc_H), mc_ev X 119 57 ls st G = mc_ev X 119 58 ls (.int 0 :: st) G) ∧
  (∀ (v0 v1 v2 : Value) (x : Int32) (st : List Value) (G : mc_H), mc_ev X 119 58 [v0, v1, v2] (.int x :: st) G = mc_ev X 119 59 [v0, v1, .int x] st G) ∧
  (∀ (ls st : List Value) (G : mc_H), mc_ev X 119 60 ls st G = mc_ev X 119 62 ls (.int 12 :: st) G) ∧
  (∀ (x y : Int32) (ls st : List Value) (G : mc_H), mc_ev X 119 62 ls (.int y :: .int x :: st) G = if x < y then mc_ev X 119 65 ls st G else mc_ev X 119 149 ls st G) ∧
  (∀ (v1 v2 : Value) (x : Nat) (st : List Value) (G : mc_H), mc_ev X 119 65 [.ref x, v1, v2] st G = mc_ev X 119 66 [.ref x, v1, v2] (.ref x :: st) G) ∧
  (∀ (r : Nat) (ls st : List Value) (G : mc_H), mc_ev X 119 66 ls (.ref r :: st) G = (mc_getf G r 8 10).bind (fun v => mc_ev X 119 69 ls (v :: st) G)) ∧
  (∀ (v0 v2 : Value) (x : Int32) (st : List Value) (G : mc_H), mc_ev X 119 69 [v0, .int x, v2] st G = mc_ev X 119 70 [v0, .int x, v2] (.int x :: st) G) ∧
  (∀ (ls st : List Value) (G : mc_H), mc_ev X 119 70 ls st G = mc_ev X 119 71 ls (.int 4 :: st) G) ∧
  (∀ (v0 v1 : Value) (x : Int32) (st : List Value) (G : mc_H), mc_ev X 119 71 [v0, v1, .int x] st G = mc_ev X 119 72 [v0, v1, .int x] (.int x :: st) G) ∧
  (∀ (x y : Int32) (ls st : List Value) (G : mc_H), mc_ev X 119 72 ls (.int y :: .int x :: st) G = mc_ev X 119 73 ls (.int (x * y) :: st) G) ∧
  (∀ (x y : Int32) (ls st : List Value) (G : mc_H), mc_ev X 119 73 ls (.int y :: .int x :: st) G = mc_ev X 119 74 ls (.int (x + y) :: st) G) ∧
  (∀ (v1 v2 : Value) (x : Nat) (st : List Value) (G : mc_H), mc_ev X 119 74 [.ref x, v1, v2] st G = mc_ev X 119 75 [.ref x, v1, v2] (.ref x :: st) G) ∧
  (∀ (r : Nat) (ls st : List Value) (G : mc_H), mc_ev X 119 75 ls (.ref r :: st) G = (mc_getf G r 8 5).bind (fun v => mc_ev X 119 78 ls (v :: st) G)) ∧
  (∀ (v0 v1 : Value) (x : Int32) (st : List Value) (G : mc_H), mc_ev X 119 78 [v0, v1, .int x] st G = mc_ev X 119 79 [v0, v1, .int x] (.int x :: st) G) ∧
  (∀ (i : Int32) (r : Value) (ls st : List Value) (G : mc_H), mc_ev X 119 79 ls (.int i :: r :: st) G = (mc_getA X G 0 r i).bind (fun x => mc_ev X 119 80 ls (.int x :: st) G)) ∧
  (∀ (x i : Int32) (r : Nat) (ls st : List Value) (G : mc_H), mc_ev X 119 80 ls (.int x :: .int i :: .ref r :: st) G = (mc_setA G 0 r i x).bind (fun G' => mc_ev X 119 81 ls st G')) ∧
  (∀ (v1 v2 : Value) (x : Nat) (st : List Value) (G : mc_H), mc_ev X 119 81 [.ref x, v1, v2] st G = mc_ev X 119 82 [.ref x, v1, v2] (.ref x :: st) G) ∧
  (∀ (r : Nat) (ls st : List Value) (G : mc_H), mc_ev X 119 82 ls (.ref r :: st) G = (mc_getf G r 8 10).bind (fun v => mc_ev X 119 85 ls (v :: st) G)) ∧
  (∀ (v0 v2 : Value) (x : Int32) (st : List Value) (G : mc_H), mc_ev X 119 85 [v0, .int x, v2] st G = mc_ev X 119 86 [v0, .int x, v2] (.int x :: st) G) ∧
  (∀ (ls st : List Value) (G : mc_H), mc_ev X 119 86 ls st G = mc_ev X 119 87 ls (.int 4 :: st) G) ∧
  (∀ (v0 v1 : Value) (x : Int32) (st : List Value) (G : mc_H), mc_ev X 119 87 [v0, v1, .int x] st G = mc_ev X 119 88 [v0, v1, .int x] (.int x :: st) G) ∧
  (∀ (x y : Int32) (ls st : List Value) (G : mc_H), mc_ev X 119 88 ls (.int y :: .int x :: st) G = mc_ev X 119 89 ls (.int (x * y) :: st) G) ∧
  (∀ (x y : Int32) (ls st : List Value) (G : mc_H), mc_ev X 119 89 ls (.int y :: .int x :: st) G = mc_ev X 119 90 ls (.int (x + y) :: st) G) ∧
  (∀ (ls st : List Value) (G : mc_H), mc_ev X 119 90 ls st G = mc_ev X 119 91 ls (.int 1 :: st) G) ∧
  (∀ (x y : Int32) (ls st : List Value) (G : mc_H), mc_ev X 119 91 ls (.int y :: .int x :: st) G = mc_ev X 119 92 ls (.int (x + y) :: st) G) ∧
  (∀ (v1 v2 : Value) (x : Nat) (st : List Value) (G : mc_H), mc_ev X 119 92 [.ref x, v1, v2] st G = mc_ev X 119 93 [.ref x, v1, v2] (.ref x :: st) G) ∧
  (∀ (r : Nat) (ls st : List Value) (G : mc_H), mc_ev X 119 93 ls (.ref r :: st) G = (mc_getf G r 8 6).bind (fun v => mc_ev X 119 96 ls (v :: st) G)) ∧
  (∀ (v0 v1 : Value) (x : Int32) (st : List Value) (G : mc_H), mc_ev X 119 96 [v0, v1, .int x] st G = mc_ev X 119 97 [v0, v1, .int x] (.int x :: st) G) ∧
  (∀ (i : Int32) (r : Value) (ls st : List Value) (G : mc_H), mc_ev X 119 97 ls (.int i :: r :: st) G = (mc_getA X G 0 r i).bind (fun x => mc_ev X 119 98 ls (.int x :: st) G)) ∧
  (∀ (x i : Int32) (r : Nat) (ls st : List Value) (G : mc_H), mc_ev X 119 98 ls (.int x :: .int i :: .ref r :: st) G = (mc_setA G 0 r i x).bind (fun G' => mc_ev X 119 99 ls st G')) ∧
  (∀ (v1 v2 : Value) (x : Nat) (st : List Value) (G : mc_H), mc_ev X 119 99 [.ref x, v1, v2] st G = mc_ev X 119 100 [.ref x, v1, v2] (.ref x :: st) G) ∧
  (∀ (r : Nat) (ls st : List Value) (G : mc_H), mc_ev X 119 100 ls (.ref r :: st) G = (mc_getf G r 8 10).bind (fun v => mc_ev X 119 103 ls (v :: st) G)) ∧
  (∀ (v0 v2 : Value) (x : Int32) (st : List Value) (G : mc_H), mc_ev X 119 103 [v0, .int x, v2] st G = mc_ev X 119 104 [v0, .int x, v2] (.int x :: st) G) ∧
  (∀ (ls st : List Value) (G : mc_H), mc_ev X 119 104 ls st G = mc_ev X 119 105 ls (.int 4 :: st) G) ∧
  (∀ (v0 v1 : Value) (x : Int32) (st : List Value) (G : mc_H), mc_ev X 119 105 [v0, v1, .int x] st G = mc_ev X 119 106 [v0, v1, .int x] (.int x :: st) G) ∧
  (∀ (x y : Int32) (ls st : List Value) (G : mc_H), mc_ev X 119 106 ls (.int y :: .int x :: st) G = mc_ev X 119 107 ls (.int (x * y) :: st) G) ∧
  (∀ (x y : Int32) (ls st : List Value) (G : mc_H), mc_ev X 119 107 ls (.int y :: .int x :: st) G = mc_ev X 119 108 ls (.int (x + y) :: st) G) ∧
  (∀ (ls st : List Value) (G : mc_H), mc_ev X 119 108 ls st G = mc_ev X 119 109 ls (.int 2 :: st) G) ∧
  (∀ (x y : Int32) (ls st : List Value) (G : mc_H), mc_ev X 119 109 ls (.int y :: .int x :: st) G = mc_ev X 119 110 ls (.int (x + y) :: st) G) ∧
  (∀ (v1 v2 : Value) (x : Nat) (st : List Value) (G : mc_H), mc_ev X 119 110 [.ref x, v1, v2] st G = mc_ev X 119 111 [.ref x, v1, v2] (.ref x :: st) G) ∧
  (∀ (r : Nat) (ls st : List Value) (G : mc_H), mc_ev X 119 111 ls (.ref r :: st) G = (mc_getf G r 8 7).bind (fun v => mc_ev X 119 114 ls (v :: st) G)) ∧
  (∀ (v0 v1 : Value) (x : Int32) (st : List Value) (G : mc_H), mc_ev X 119 114 [v0, v1, .int x] st G = mc_ev X 119 115 [v0, v1, .int x] (.int x :: st) G) ∧
  (∀ (i : Int32) (r : Value) (ls st : List Value) (G : mc_H), mc_ev X 119 115 ls (.int i :: r :: st) G = (mc_getA X G 0 r i).bind (fun x => mc_ev X 119 116 ls (.int x :: st) G)) ∧
  (∀ (x i : Int32) (r : Nat) (ls st : List Value) (G : mc_H), mc_ev X 119 116 ls (.int x :: .int i :: .ref r :: st) G = (mc_setA G 0 r i x).bind (fun G' => mc_ev X 119 117 ls st G')) ∧
  (∀ (v1 v2 : Value) (x : Nat) (st : List Value) (G : mc_H), mc_ev X 119 117 [.ref x, v1, v2] st G = mc_ev X 119 118 [.ref x, v1, v2] (.ref x :: st) G) ∧
  (∀ (r : Nat) (ls st : List Value) (G : mc_H), mc_ev X 119 118 ls (.ref r :: st) G = (mc_getf G r 8 10).bind (fun v => mc_ev X 119 121 ls (v :: st) G)) ∧
  (∀ (v0 v2 : Value) (x : Int32) (st : List Value) (G : mc_H), mc_ev X 119 121 [v0, .int x, v2] st G = mc_ev X 119 122 [v0, .int x, v2] (.int x :: st) G) ∧
  (∀ (ls st : List Value) (G : mc_H), mc_ev X 119 122 ls st G = mc_ev X 119 123 ls (.int 4 :: st) G) ∧
  (∀ (v0 v1 : Value) (x : Int32) (st : List Value) (G : mc_H), mc_ev X 119 123 [v0, v1, .int x] st G = mc_ev X 119 124 [v0, v1, .int x] (.int x :: st) G) ∧
  (∀ (x y : Int32) (ls st : List Value) (G : mc_H), mc_ev X 119 124 ls (.int y :: .int x :: st) G = mc_ev X 119 125 ls (.int (x * y) :: st) G) ∧
  (∀ (x y : Int32) (ls st : List Value) (G : mc_H), mc_ev X 119 125 ls (.int y :: .int x :: st) G = mc_ev X 119 126 ls (.int (x + y) :: st) G) ∧
  (∀ (ls st : List Value) (G : mc_H), mc_ev X 119 126 ls st G = mc_ev X 119 127 ls (.int 3 :: st) G) ∧
  (∀ (x y : Int32) (ls st : List Value) (G : mc_H), mc_ev X 119 127 ls (.int y :: .int x :: st) G = mc_ev X 119 128 ls (.int (x + y) :: st) G) ∧
  (∀ (v1 v2 : Value) (x : Nat) (st : List Value) (G : mc_H), mc_ev X 119 128 [.ref x, v1, v2] st G = mc_ev X 119 129 [.ref x, v1, v2] (.ref x :: st) G) ∧
  (∀ (r : Nat) (ls st : List Value) (G : mc_H), mc_ev X 119 129 ls (.ref r :: st) G = (mc_getf G r 8 8).bind (fun v => mc_ev X 119 132 ls (v :: st) G)) ∧
  (∀ (v0 v1 : Value) (x : Int32) (st : List Value) (G : mc_H), mc_ev X 119 132 [v0, v1, .int x] st G = mc_ev X 119 133 [v0, v1, .int x] (.int x :: st) G) ∧
  (∀ (i : Int32) (r : Value) (ls st : List Value) (G : mc_H), mc_ev X 119 133 ls (.int i :: r :: st) G = (mc_getA X G 1 r i).bind (fun x => mc_ev X 119 134 ls (.int x :: st) G)) ∧
  (∀ (x : Int32) (ls st : List Value) (G : mc_H), mc_ev X 119 134 ls (.int x :: st) G = if x = 0 then mc_ev X 119 141 ls st G else mc_ev X 119 137 ls st G) ∧
  (∀ (ls st : List Value) (G : mc_H), mc_ev X 119 137 ls st G = mc_ev X 119 138 ls (.int 1 :: st) G) ∧
  (∀ (ls st : List Value) (G : mc_H), mc_ev X 119 138 ls st G = mc_ev X 119 142 ls st G) ∧
  (∀ (ls st : List Value) (G : mc_H), mc_ev X 119 141 ls st G = mc_ev X 119 142 ls (.int 0 :: st) G) ∧
  (∀ (x i : Int32) (r : Nat) (ls st : List Value) (G : mc_H), mc_ev X 119 142 ls (.int x :: .int i :: .ref r :: st) G = (mc_setA G 0 r i x).bind (fun G' => mc_ev X 119 143 ls st G')) ∧
  (∀ (v0 v1 : Value) (x : Int32) (st : List Value) (G : mc_H), mc_ev X 119 143 [v0, v1, .int x] st G = mc_ev X 119 146 [v0, v1, .int (x + 1)] st G) ∧
  (∀ (ls st : List Value) (G : mc_H), mc_ev X 119 146 ls st G = mc_ev X 119 59 ls st G) ∧
  (∀ (ls st : List Value) (G : mc_H), mc_ev X 119 149 ls st G = mc_ev X 119 150 ls (.int 0 :: st) G) ∧
  (∀ (v0 v1 v2 : Value) (x : Int32) (st : List Value) (G : mc_H), mc_ev X 119 150 [v0, v1, v2] (.int x :: st) G = mc_ev X 119 151 [v0, v1, .int x] st G) ∧
  (∀ (ls st : List Value) (G : mc_H), mc_ev X 119 152 ls st G = mc_ev X 119 154 ls (.int 24 :: st) G) ∧
  (∀ (x y : Int32) (ls st : List Value) (G : mc_H), mc_ev X 119 154 ls (.int y :: .int x :: st) G = if x < y then mc_ev X 119 157 ls st G else mc_ev X 119 180 ls st G) ∧
  (∀ (v1 v2 : Value) (x : Nat) (st : List Value) (G : mc_H), mc_ev X 119 157 [.ref x, v1, v2] st G = mc_ev X 119 158 [.ref x, v1, v2] (.ref x :: st) G) ∧
  (∀ (r : Nat) (ls st : List Value) (G : mc_H), mc_ev X 119 158 ls (.ref r :: st) G = (mc_getf G r 8 10).bind (fun v => mc_ev X 119 161 ls (v :: st) G)) ∧
  (∀ (v0 v2 : Value) (x : Int32) (st : List Value) (G : mc_H), mc_ev X 119 161 [v0, .int x, v2] st G = mc_ev X 119 162 [v0, .int x, v2] (.int x :: st) G) ∧
  (∀ (ls st : List Value) (G : mc_H), mc_ev X 119 162 ls st G = mc_ev X 119 164 ls (.int 48 :: st) G) ∧
  (∀ (x y : Int32) (ls st : List Value) (G : mc_H), mc_ev X 119 164 ls (.int y :: .int x :: st) G = mc_ev X 119 165 ls (.int (x + y) :: st) G) ∧
  (∀ (v0 v1 : Value) (x : Int32) (st : List Value) (G : mc_H), mc_ev X 119 165 [v0, v1, .int x] st G = mc_ev X 119 166 [v0, v1, .int x] (.int x :: st) G) ∧
  (∀ (x y : Int32) (ls st : List Value) (G : mc_H), mc_ev X 119 166 ls (.int y :: .int x :: st) G = mc_ev X 119 167 ls (.int (x + y) :: st) G) ∧
  (∀ (v1 v2 : Value) (x : Nat) (st : List Value) (G : mc_H), mc_ev X 119 167 [.ref x, v1, v2] st G = mc_ev X 119 168 [.ref x, v1, v2] (.ref x :: st) G) ∧
  (∀ (r : Nat) (ls st : List Value) (G : mc_H), mc_ev X 119 168 ls (.ref r :: st) G = (mc_getf G r 8 9).bind (fun v => mc_ev X 119 171 ls (v :: st) G)) ∧
  (∀ (v0 v1 : Value) (x : Int32) (st : List Value) (G : mc_H), mc_ev X 119 171 [v0, v1, .int x] st G = mc_ev X 119 172 [v0, v1, .int x] (.int x :: st) G) ∧
  (∀ (i : Int32) (r : Value) (ls st : List Value) (G : mc_H), mc_ev X 119 172 ls (.int i :: r :: st) G = (mc_getA X G 0 r i).bind (fun x => mc_ev X 119 173 ls (.int x :: st) G)) ∧
  (∀ (x i : Int32) (r : Nat) (ls st : List Value) (G : mc_H), mc_ev X 119 173 ls (.int x :: .int i :: .ref r :: st) G = (mc_setA G 0 r i x).bind (fun G' => mc_ev X 119 174 ls st G')) ∧
  (∀ (v0 v1 : Value) (x : Int32) (st : List Value) (G : mc_H), mc_ev X 119 174 [v0, v1, .int x] st G = mc_ev X 119 177 [v0, v1, .int (x + 1)] st G) ∧
  (∀ (ls st : List Value) (G : mc_H), mc_ev X 119 177 ls st G = mc_ev X 119 151 ls st G) ∧
  (∀ (v1 v2 : Value) (x : Nat) (st : List Value) (G : mc_H), mc_ev X 119 180 [.ref x, v1, v2] st G = mc_ev X 119 181 [.ref x, v1, v2] (.ref x :: st) G) ∧
  (∀ (x : Nat) (ls st : List Value) (G : mc_H), mc_ev X 119 181 ls (.ref x :: st) G = mc_ev X 119 182 ls (.ref x :: .ref x :: st) G) ∧
  (∀ (r : Nat) (ls st : List Value) (G : mc_H), mc_ev X 119 182 ls (.ref r :: st) G = (mc_getf G r 8 11).bind (fun v => mc_ev X 119 185 ls (v :: st) G)) ∧
  (∀ (ls st : List Value) (G : mc_H), mc_ev X 119 185 ls st G = mc_ev X 119 186 ls (.int 1 :: st) G) ∧
  (∀ (x y : Int32) (ls st : List Value) (G : mc_H), mc_ev X 119 186 ls (.int y :: .int x :: st) G = mc_ev X 119 187 ls (.int (x + y) :: st) G) ∧
  (∀ (v : Value) (r : Nat) (ls st : List Value) (G : mc_H), mc_ev X 119 187 ls (v :: .ref r :: st) G = (mc_setf G r 8 11 v).bind (fun G' => mc_ev X 119 190 ls st G')) ∧
  (∀ (ls : List Value) (G : mc_H), mc_ev X 119 190 ls [] G = some (none, G)) := ⟨fun v1 v2 x st G => ev_aload_n rfl rfl,
  fun r ls st G => ev_getfield rfl,
  fun ls st G => ev_bipush rfl rfl,
  fun x y ls st G => ev_br rfl rfl,
  fun ls st G => ev_iconst rfl rfl,
  fun v0 v1 v2 x st G => ev_istore_n (X := X) (k := 119) (pc := 10) (ls := [v0, v1, v2]) (st := st) (G := G) (j := 1) (x := x) rfl (Nat.le_of_ble_eq_true rfl),
  fun ls st G => ev_sipush rfl rfl,
  fun x y ls st G => ev_br rfl rfl,
  fun v1 v2 x st G => ev_aload_n rfl rfl,
  fun r ls st G => ev_getfield rfl,
  fun v0 v2 x st G => ev_iload_n rfl rfl,
  fun v1 v2 x st G => ev_aload_n rfl rfl,
  fun r ls st G => ev_getfield rfl,
  fun v0 v2 x st G => ev_iload_n rfl rfl,
  fun ls st G => ev_bipush rfl rfl,
  fun x y ls st G => ev_iadd rfl,
  fun i r ls st G => ev_iaload rfl,
  fun x i r ls st G => ev_iastore rfl,
  fun v0 v2 x st G => ev_iinc (X := X) (k := 119) (pc := 33) (ls := [v0, .int x, v2]) (st := st) (G := G) (j := 1) (n := 1) (x := x) (v := 1) rfl rfl rfl,
  fun ls st G => ev_goto rfl rfl,
  fun v1 v2 x st G => ev_aload_n rfl rfl,
  fun x ls st G => ev_dup rfl,
  fun r ls st G => ev_getfield rfl,
  fun ls st G => ev_iconst rfl rfl,
  fun x y ls st G => ev_isub rfl,
  fun v r ls st G => ev_putfield rfl,
  fun ls st G => ev_bipush rfl rfl,
  fun v1 v2 x st G => ev_aload_n rfl rfl,
  fun r ls st G => ev_getfield rfl,
  fun x y ls st G => ev_imul rfl,
  fun v0 v1 v2 x st G => ev_istore_n (X := X) (k := 119) (pc := 56) (ls := [v0, v1, v2]) (st := st) (G := G) (j := 1) (x := x) rfl (Nat.le_of_ble_eq_true rfl),
  fun ls st G => ev_iconst rfl rfl,
  fun v0 v1 v2 x st G => ev_istore_n (X := X) (k := 119) (pc := 58) (ls := [v0, v1, v2]) (st := st) (G := G) (j := 2) (x := x) rfl (Nat.le_of_ble_eq_true rfl),
  fun ls st G => ev_bipush rfl rfl,
  fun x y ls st G => ev_br rfl rfl,
  fun v1 v2 x st G => ev_aload_n rfl rfl,
  fun r ls st G => ev_getfield rfl,
  fun v0 v2 x st G => ev_iload_n rfl rfl,
  fun ls st G => ev_iconst rfl rfl,
  fun v0 v1 x st G => ev_iload_n rfl rfl,
  fun x y ls st G => ev_imul rfl,
  fun x y ls st G => ev_iadd rfl,
  fun v1 v2 x st G => ev_aload_n rfl rfl,
  fun r ls st G => ev_getfield rfl,
  fun v0 v1 x st G => ev_iload_n rfl rfl,
  fun i r ls st G => ev_iaload rfl,
  fun x i r ls st G => ev_iastore rfl,
  fun v1 v2 x st G => ev_aload_n rfl rfl,
  fun r ls st G => ev_getfield rfl,
  fun v0 v2 x st G => ev_iload_n rfl rfl,
  fun ls st G => ev_iconst rfl rfl,
  fun v0 v1 x st G => ev_iload_n rfl rfl,
  fun x y ls st G => ev_imul rfl,
  fun x y ls st G => ev_iadd rfl,
  fun ls st G => ev_iconst rfl rfl,
  fun x y ls st G => ev_iadd rfl,
  fun v1 v2 x st G => ev_aload_n rfl rfl,
  fun r ls st G => ev_getfield rfl,
  fun v0 v1 x st G => ev_iload_n rfl rfl,
  fun i r ls st G => ev_iaload rfl,
  fun x i r ls st G => ev_iastore rfl,
  fun v1 v2 x st G => ev_aload_n rfl rfl,
  fun r ls st G => ev_getfield rfl,
  fun v0 v2 x st G => ev_iload_n rfl rfl,
  fun ls st G => ev_iconst rfl rfl,
  fun v0 v1 x st G => ev_iload_n rfl rfl,
  fun x y ls st G => ev_imul rfl,
  fun x y ls st G => ev_iadd rfl,
  fun ls st G => ev_iconst rfl rfl,
  fun x y ls st G => ev_iadd rfl,
  fun v1 v2 x st G => ev_aload_n rfl rfl,
  fun r ls st G => ev_getfield rfl,
  fun v0 v1 x st G => ev_iload_n rfl rfl,
  fun i r ls st G => ev_iaload rfl,
  fun x i r ls st G => ev_iastore rfl,
  fun v1 v2 x st G => ev_aload_n rfl rfl,
  fun r ls st G => ev_getfield rfl,
  fun v0 v2 x st G => ev_iload_n rfl rfl,
  fun ls st G => ev_iconst rfl rfl,
  fun v0 v1 x st G => ev_iload_n rfl rfl,
  fun x y ls st G => ev_imul rfl,
  fun x y ls st G => ev_iadd rfl,
  fun ls st G => ev_iconst rfl rfl,
  fun x y ls st G => ev_iadd rfl,
  fun v1 v2 x st G => ev_aload_n rfl rfl,
  fun r ls st G => ev_getfield rfl,
  fun v0 v1 x st G => ev_iload_n rfl rfl,
  fun i r ls st G => ev_baload rfl,
  fun x ls st G => ev_br rfl rfl,
  fun ls st G => ev_iconst rfl rfl,
  fun ls st G => ev_goto rfl rfl,
  fun ls st G => ev_iconst rfl rfl,
  fun x i r ls st G => ev_iastore rfl,
  fun v0 v1 x st G => ev_iinc (X := X) (k := 119) (pc := 143) (ls := [v0, v1, .int x]) (st := st) (G := G) (j := 2) (n := 1) (x := x) (v := 1) rfl rfl rfl,
  fun ls st G => ev_goto rfl rfl,
  fun ls st G => ev_iconst rfl rfl,
  fun v0 v1 v2 x st G => ev_istore_n (X := X) (k := 119) (pc := 150) (ls := [v0, v1, v2]) (st := st) (G := G) (j := 2) (x := x) rfl (Nat.le_of_ble_eq_true rfl),
  fun ls st G => ev_bipush rfl rfl,
  fun x y ls st G => ev_br rfl rfl,
  fun v1 v2 x st G => ev_aload_n rfl rfl,
  fun r ls st G => ev_getfield rfl,
  fun v0 v2 x st G => ev_iload_n rfl rfl,
  fun ls st G => ev_bipush rfl rfl,
  fun x y ls st G => ev_iadd rfl,
  fun v0 v1 x st G => ev_iload_n rfl rfl,
  fun x y ls st G => ev_iadd rfl,
  fun v1 v2 x st G => ev_aload_n rfl rfl,
  fun r ls st G => ev_getfield rfl,
  fun v0 v1 x st G => ev_iload_n rfl rfl,
  fun i r ls st G => ev_iaload rfl,
  fun x i r ls st G => ev_iastore rfl,
  fun v0 v1 x st G => ev_iinc (X := X) (k := 119) (pc := 174) (ls := [v0, v1, .int x]) (st := st) (G := G) (j := 2) (n := 1) (x := x) (v := 1) rfl rfl rfl,
  fun ls st G => ev_goto rfl rfl,
  fun v1 v2 x st G => ev_aload_n rfl rfl,
  fun x ls st G => ev_dup rfl,
  fun r ls st G => ev_getfield rfl,
  fun ls st G => ev_iconst rfl rfl,
  fun x y ls st G => ev_iadd rfl,
  fun v r ls st G => ev_putfield rfl,
  fun ls G => ev_return rfl rfl⟩
set_option maxRecDepth 100000 in
theorem e_120 {X : mc_X} : (∀ (v1 : Value) (x : Nat) (st : List Value) (G : mc_H), mc_ev X 120 0 [.ref x, v1] st G = mc_ev X 120 1 [.ref x, v1] (.ref x :: st) G) ∧
  (∀ (r : Nat) (ls st : List Value) (G : mc_H), mc_ev X 120 1 ls (.ref r :: st) G = (mc_getf G r 8 7).bind (fun v => mc_ev X 120 4 ls (v :: st) G)) ∧
  (∀ (v0 : Value) (x : Int32) (st : List Value) (G : mc_H), mc_ev X 120 4 [v0, .int x] st G = mc_ev X 120 5 [v0, .int x] (.int x :: st) G) ∧
  (∀ (i : Int32) (r : Value) (ls st : List Value) (G : mc_H), mc_ev X 120 5 ls (.int i :: r :: st) G = (mc_getA X G 0 r i).bind (fun x => mc_ev X 120 6 ls (.int x :: st) G)) ∧
  (∀ (ls st : List Value) (G : mc_H), mc_ev X 120 6 ls st G = mc_ev X 120 7 ls (.int 1 :: st) G) ∧
  (∀ (x y : Int32) (ls st : List Value) (G : mc_H), mc_ev X 120 7 ls (.int y :: .int x :: st) G = if x = y then mc_ev X 120 29 ls st G else mc_ev X 120 10 ls st G) ∧
  (∀ (v1 : Value) (x : Nat) (st : List Value) (G : mc_H), mc_ev X 120 10 [.ref x, v1] st G = mc_ev X 120 11 [.ref x, v1] (.ref x :: st) G) ∧
  (∀ (r : Nat) (ls st : List Value) (G : mc_H), mc_ev X 120 11 ls (.ref r :: st) G = (mc_getf G r 8 7).bind (fun v => mc_ev X 120 14 ls (v :: st) G)) ∧
  (∀ (v0 : Value) (x : Int32) (st : List Value) (G : mc_H), mc_ev X 120 14 [v0, .int x] st G = mc_ev X 120 15 [v0, .int x] (.int x :: st) G) ∧
  (∀ (i : Int32) (r : Value) (ls st : List Value) (G : mc_H), mc_ev X 120 15 ls (.int i :: r :: st) G = (mc_getA X G 0 r i).bind (fun x => mc_ev X 120 16 ls (.int x :: st) G)) ∧
  (∀ (ls st : List Value) (G : mc_H), mc_ev X 120 16 ls st G = mc_ev X 120 17 ls (.int 4 :: st) G) ∧
  (∀ (x y : Int32) (ls st : List Value) (G : mc_H), mc_ev X 120 17 ls (.int y :: .int x :: st) G = if x = y then mc_ev X 120 20 ls st G else mc_ev X 120 33 ls st G) ∧
  (∀ (v1 : Value) (x : Nat) (st : List Value) (G : mc_H), mc_ev X 120 20 [.ref x, v1] st G = mc_ev X 120 21 [.ref x, v1] (.ref x :: st) G) ∧
  (∀ (r : Nat) (ls st : List Value) (G : mc_H), mc_ev X 120 21 ls (.ref r :: st) G = (mc_getf G r 8 8).bind (fun v => mc_ev X 120 24 ls (v :: st) G)) ∧
  (∀ (v0 : Value) (x : Int32) (st : List Value) (G : mc_H), mc_ev X 120 24 [v0, .int x] st G = mc_ev X 120 25 [v0, .int x] (.int x :: st) G) ∧
  (∀ (i : Int32) (r : Value) (ls st : List Value) (G : mc_H), mc_ev X 120 25 ls (.int i :: r :: st) G = (mc_getA X G 1 r i).bind (fun x => mc_ev X 120 26 ls (.int x :: st) G)) ∧
  (∀ (x : Int32) (ls st : List Value) (G : mc_H), mc_ev X 120 26 ls (.int x :: st) G = if x = 0 then mc_ev X 120 29 ls st G else mc_ev X 120 33 ls st G) ∧
  (∀ (ls st : List Value) (G : mc_H), mc_ev X 120 29 ls st G = mc_ev X 120 30 ls (.int 1 :: st) G) ∧
  (∀ (ls st : List Value) (G : mc_H), mc_ev X 120 30 ls st G = mc_ev X 120 34 ls st G) ∧
  (∀ (ls st : List Value) (G : mc_H), mc_ev X 120 33 ls st G = mc_ev X 120 34 ls (.int 0 :: st) G) ∧
  (∀ (v : Int32) (ls : List Value) (G : mc_H), (v = 0 ∨ v = 1) → mc_ev X 120 34 ls [.int v] G = some (some (.int v), G)) := ⟨fun v1 x st G => ev_aload_n rfl rfl,
  fun r ls st G => ev_getfield rfl,
  fun v0 x st G => ev_iload_n rfl rfl,
  fun i r ls st G => ev_iaload rfl,
  fun ls st G => ev_iconst rfl rfl,
  fun x y ls st G => ev_br rfl rfl,
  fun v1 x st G => ev_aload_n rfl rfl,
  fun r ls st G => ev_getfield rfl,
  fun v0 x st G => ev_iload_n rfl rfl,
  fun i r ls st G => ev_iaload rfl,
  fun ls st G => ev_iconst rfl rfl,
  fun x y ls st G => ev_br rfl rfl,
  fun v1 x st G => ev_aload_n rfl rfl,
  fun r ls st G => ev_getfield rfl,
  fun v0 x st G => ev_iload_n rfl rfl,
  fun i r ls st G => ev_baload rfl,
  fun x ls st G => ev_br rfl rfl,
  fun ls st G => ev_iconst rfl rfl,
  fun ls st G => ev_goto rfl rfl,
  fun ls st G => ev_iconst rfl rfl,
  fun v ls G hv => ev_zreturn rfl rfl hv⟩
set_option maxRecDepth 100000 in
theorem e_121 {X : mc_X} : (∀ (v1 : Value) (x : Nat) (st : List Value) (G : mc_H), mc_ev X 121 0 [.ref x, v1] st G = mc_ev X 121 1 [.ref x, v1] (.ref x :: st) G) ∧
  (∀ (v0 : Value) (x : Int32) (st : List Value) (G : mc_H), mc_ev X 121 1 [v0, .int x] st G = mc_ev X 121 2 [v0, .int x] (.int x :: st) G) ∧
  (∀ (a0 : Int32) (r : Nat) (ls st : List Value) (G : mc_H), st.length ≤ 4 → mc_cls G r = some 8 → mc_ev X 121 2 ls (.int a0 :: .ref r :: st) G = (mc_ev X 120 0 [.ref r, .int a0] [] G).bind (fun q => mc_ev X 121 5 ls (q.1.toList ++ st) q.2)) ∧
  (∀ (x : Int32) (ls st : List Value) (G : mc_H), mc_ev X 121 5 ls (.int x :: st) G = if x = 0 then mc_ev X 121 17 ls st G else mc_ev X 121 8 ls st G) ∧
  (∀ (v1 : Value) (x : Nat) (st : List Value) (G : mc_H), mc_ev X 121 8 [.ref x, v1] st G = mc_ev X 121 9 [.ref x, v1] (.ref x :: st) G) ∧
  (∀ (r : Nat) (ls st : List Value) (G : mc_H), mc_ev X 121 9 ls (.ref r :: st) G = (mc_getf G r 8 6).bind (fun v => mc_ev X 121 12 ls (v :: st) G)) ∧
  (∀ (v0 : Value) (x : Int32) (st : List Value) (G : mc_H), mc_ev X 121 12 [v0, .int x] st G = mc_ev X 121 13 [v0, .int x] (.int x :: st) G) ∧
  (∀ (i : Int32) (r : Value) (ls st : List Value) (G : mc_H), mc_ev X 121 13 ls (.int i :: r :: st) G = (mc_getA X G 0 r i).bind (fun x => mc_ev X 121 14 ls (.int x :: st) G)) ∧
  (∀ (ls st : List Value) (G : mc_H), mc_ev X 121 14 ls st G = mc_ev X 121 23 ls st G) ∧
  (∀ (v1 : Value) (x : Nat) (st : List Value) (G : mc_H), mc_ev X 121 17 [.ref x, v1] st G = mc_ev X 121 18 [.ref x, v1] (.ref x :: st) G) ∧
  (∀ (r : Nat) (ls st : List Value) (G : mc_H), mc_ev X 121 18 ls (.ref r :: st) G = (mc_getf G r 8 5).bind (fun v => mc_ev X 121 21 ls (v :: st) G)) ∧
  (∀ (v0 : Value) (x : Int32) (st : List Value) (G : mc_H), mc_ev X 121 21 [v0, .int x] st G = mc_ev X 121 22 [v0, .int x] (.int x :: st) G) ∧
  (∀ (i : Int32) (r : Value) (ls st : List Value) (G : mc_H), mc_ev X 121 22 ls (.int i :: r :: st) G = (mc_getA X G 0 r i).bind (fun x => mc_ev X 121 23 ls (.int x :: st) G)) ∧
  (∀ (v : Int32) (ls : List Value) (G : mc_H), mc_ev X 121 23 ls [.int v] G = some (some (.int v), G)) := ⟨fun v1 x st G => ev_aload_n rfl rfl,
  fun v0 x st G => ev_iload_n rfl rfl,
  fun a0 r ls st G hr hG => ev_virt (As := [.int a0]) rfl rfl rfl rfl rfl rfl hr hG,
  fun x ls st G => ev_br rfl rfl,
  fun v1 x st G => ev_aload_n rfl rfl,
  fun r ls st G => ev_getfield rfl,
  fun v0 x st G => ev_iload_n rfl rfl,
  fun i r ls st G => ev_iaload rfl,
  fun ls st G => ev_goto rfl rfl,
  fun v1 x st G => ev_aload_n rfl rfl,
  fun r ls st G => ev_getfield rfl,
  fun v0 x st G => ev_iload_n rfl rfl,
  fun i r ls st G => ev_iaload rfl,
  fun v ls G => ev_ireturn rfl rfl⟩
set_option maxRecDepth 100000 in
theorem e_122 {X : mc_X} : (∀ (v1 : Value) (x : Nat) (st : List Value) (G : mc_H), mc_ev X 122 0 [.ref x, v1] st G = mc_ev X 122 1 [.ref x, v1] (.ref x :: st) G) ∧
  (∀ (r : Nat) (ls st : List Value) (G : mc_H), mc_ev X 122 1 ls (.ref r :: st) G = (mc_getf G r 8 7).bind (fun v => mc_ev X 122 4 ls (v :: st) G)) ∧
  (∀ (v0 : Value) (x : Int32) (st : List Value) (G : mc_H), mc_ev X 122 4 [v0, .int x] st G = mc_ev X 122 5 [v0, .int x] (.int x :: st) G) ∧
  (∀ (i : Int32) (r : Value) (ls st : List Value) (G : mc_H), mc_ev X 122 5 ls (.int i :: r :: st) G = (mc_getA X G 0 r i).bind (fun x => mc_ev X 122 6 ls (.int x :: st) G)) ∧
  (∀ (ls st : List Value) (G : mc_H), mc_ev X 122 6 ls st G = mc_ev X 122 7 ls (.int 2 :: st) G) ∧
  (∀ (x y : Int32) (ls st : List Value) (G : mc_H), mc_ev X 122 7 ls (.int y :: .int x :: st) G = if x = y then mc_ev X 122 10 ls st G else mc_ev X 122 14 ls st G) ∧
  (∀ (ls st : List Value) (G : mc_H), mc_ev X 122 10 ls st G = mc_ev X 122 11 ls (.int 2 :: st) G) ∧
  (∀ (ls st : List Value) (G : mc_H), mc_ev X 122 11 ls st G = mc_ev X 122 29 ls st G) ∧
  (∀ (v1 : Value) (x : Nat) (st : List Value) (G : mc_H), mc_ev X 122 14 [.ref x, v1] st G = mc_ev X 122 15 [.ref x, v1] (.ref x :: st) G) ∧
  (∀ (r : Nat) (ls st : List Value) (G : mc_H), mc_ev X 122 15 ls (.ref r :: st) G = (mc_getf G r 8 7).bind (fun v => mc_ev X 122 18 ls (v :: st) G)) ∧
  (∀ (v0 : Value) (x : Int32) (st : List Value) (G : mc_H), mc_ev X 122 18 [v0, .int x] st G = mc_ev X 122 19 [v0, .int x] (.int x :: st) G) ∧
  (∀ (i : Int32) (r : Value) (ls st : List Value) (G : mc_H), mc_ev X 122 19 ls (.int i :: r :: st) G = (mc_getA X G 0 r i).bind (fun x => mc_ev X 122 20 ls (.int x :: st) G)) ∧
  (∀ (ls st : List Value) (G : mc_H), mc_ev X 122 20 ls st G = mc_ev X 122 21 ls (.int 3 :: st) G) ∧
  (∀ (x y : Int32) (ls st : List Value) (G : mc_H), mc_ev X 122 21 ls (.int y :: .int x :: st) G = if x = y then mc_ev X 122 24 ls st G else mc_ev X 122 28 ls st G) ∧
  (∀ (ls st : List Value) (G : mc_H), mc_ev X 122 24 ls st G = mc_ev X 122 25 ls (.int 0 :: st) G) ∧
  (∀ (ls st : List Value) (G : mc_H), mc_ev X 122 25 ls st G = mc_ev X 122 29 ls st G) ∧
  (∀ (ls st : List Value) (G : mc_H), mc_ev X 122 28 ls st G = mc_ev X 122 29 ls (.int 1 :: st) G) ∧
  (∀ (v : Int32) (ls : List Value) (G : mc_H), mc_ev X 122 29 ls [.int v] G = some (some (.int v), G)) := ⟨fun v1 x st G => ev_aload_n rfl rfl,
  fun r ls st G => ev_getfield rfl,
  fun v0 x st G => ev_iload_n rfl rfl,
  fun i r ls st G => ev_iaload rfl,
  fun ls st G => ev_iconst rfl rfl,
  fun x y ls st G => ev_br rfl rfl,
  fun ls st G => ev_iconst rfl rfl,
  fun ls st G => ev_goto rfl rfl,
  fun v1 x st G => ev_aload_n rfl rfl,
  fun r ls st G => ev_getfield rfl,
  fun v0 x st G => ev_iload_n rfl rfl,
  fun i r ls st G => ev_iaload rfl,
  fun ls st G => ev_iconst rfl rfl,
  fun x y ls st G => ev_br rfl rfl,
  fun ls st G => ev_iconst rfl rfl,
  fun ls st G => ev_goto rfl rfl,
  fun ls st G => ev_iconst rfl rfl,
  fun v ls G => ev_ireturn rfl rfl⟩
set_option maxRecDepth 100000 in
theorem e_123 {X : mc_X} : (∀ (v1 v2 v3 v4 : Value) (x : Nat) (st : List Value) (G : mc_H), mc_ev X 123 0 [.ref x, v1, v2, v3, v4] st G = mc_ev X 123 1 [.ref x, v1, v2, v3, v4] (.ref x :: st) G) ∧
  (∀ (r : Nat) (ls st : List Value) (G : mc_H), st.length ≤ 4 → mc_cls G r = some 8 → mc_ev X 123 1 ls (.ref r :: st) G = (mc_ev X 114 0 [.ref r] [] G).bind (fun q => mc_ev X 123 4 ls (q.1.toList ++ st) q.2)) ∧
  (∀ (v0 v1 v2 v3 v4 : Value) (x : Int32) (st : List Value) (G : mc_H), mc_ev X 123 4 [v0, v1, v2, v3, v4] (.int x :: st) G = mc_ev X 123 5 [v0, v1, v2, .int x, v4] st G) ∧
  (∀ (v0 v2 v3 v4 : Value) (x : Int32) (st : List Value) (G : mc_H), mc_ev X 123 5 [v0, .int x, v2, v3, v4] st G = mc_ev X 123 6 [v0, .int x, v2, v3, v4] (.int x :: st) G) ∧
  (∀ (v0 v1 v2 v4 : Value) (x : Int32) (st : List Value) (G : mc_H), mc_ev X 123 6 [v0, v1, v2, .int x, v4] st G = mc_ev X 123 7 [v0, v1, v2, .int x, v4] (.int x :: st) G) ∧
  (∀ (x y : Int32) (ls st : List Value) (G : mc_H), mc_ev X 123 7 ls (.int y :: .int x :: st) G = if x < y then mc_ev X 123 10 ls st G else mc_ev X 123 48 ls st G) ∧
  (∀ (v0 v2 v3 v4 : Value) (x : Int32) (st : List Value) (G : mc_H), mc_ev X 123 10 [v0, .int x, v2, v3, v4] st G = mc_ev X 123 11 [v0, .int x, v2, v3, v4] (.int x :: st) G) ∧
  (∀ (v1 v2 v3 v4 : Value) (x : Nat) (st : List Value) (G : mc_H), mc_ev X 123 11 [.ref x, v1, v2, v3, v4] st G = mc_ev X 123 12 [.ref x, v1, v2, v3, v4] (.ref x :: st) G) ∧
  (∀ (r : Nat) (ls st : List Value) (G : mc_H), mc_ev X 123 12 ls (.ref r :: st) G = (mc_getf G r 8 4).bind (fun v => mc_ev X 123 15 ls (v :: st) G)) ∧
  (∀ (ls st : List Value) (G : mc_H), mc_ev X 123 15 ls st G = mc_ev X 123 16 ls (.int 1 :: st) G) ∧
  (∀ (x y : Int32) (ls st : List Value) (G : mc_H), mc_ev X 123 16 ls (.int y :: .int x :: st) G = mc_ev X 123 17 ls (.int (x - y) :: st) G) ∧
  (∀ (x y : Int32) (ls st : List Value) (G : mc_H), mc_ev X 123 17 ls (.int y :: .int x :: st) G = if y = 0 then none else mc_ev X 123 18 ls (.int (x / y) :: st) G) ∧
  (∀ (v1 v2 v3 v4 : Value) (x : Nat) (st : List Value) (G : mc_H), mc_ev X 123 18 [.ref x, v1, v2, v3, v4] st G = mc_ev X 123 19 [.ref x, v1, v2, v3, v4] (.ref x :: st) G) ∧
  (∀ (r : Nat) (ls st : List Value) (G : mc_H), mc_ev X 123 19 ls (.ref r :: st) G = (mc_getf G r 8 4).bind (fun v => mc_ev X 123 22 ls (v :: st) G)) ∧
  (∀ (x y : Int32) (ls st : List Value) (G : mc_H), mc_ev X 123 22 ls (.int y :: .int x :: st) G = mc_ev X 123 23 ls (.int (x * y) :: st) G) ∧
  (∀ (v0 v2 v3 v4 : Value) (x : Int32) (st : List Value) (G : mc_H), mc_ev X 123 23 [v0, .int x, v2, v3, v4] st G = mc_ev X 123 24 [v0, .int x, v2, v3, v4] (.int x :: st) G) ∧
  (∀ (v1 v2 v3 v4 : Value) (x : Nat) (st : List Value) (G : mc_H), mc_ev X 123 24 [.ref x, v1, v2, v3, v4] st G = mc_ev X 123 25 [.ref x, v1, v2, v3, v4] (.ref x :: st) G) ∧
  (∀ (r : Nat) (ls st : List Value) (G : mc_H), mc_ev X 123 25 ls (.ref r :: st) G = (mc_getf G r 8 4).bind (fun v => mc_ev X 123 28 ls (v :: st) G)) ∧
  (∀ (ls st : List Value) (G : mc_H), mc_ev X 123 28 ls st G = mc_ev X 123 29 ls (.int 1 :: st) G) ∧
  (∀ (x y : Int32) (ls st : List Value) (G : mc_H), mc_ev X 123 29 ls (.int y :: .int x :: st) G = mc_ev X 123 30 ls (.int (x - y) :: st) G) ∧
  (∀ (x y : Int32) (ls st : List Value) (G : mc_H), mc_ev X 123 30 ls (.int y :: .int x :: st) G = if y = 0 then none else mc_ev X 123 31 ls (.int (x - x / y * y) :: st) G) ∧
  (∀ (x y : Int32) (ls st : List Value) (G : mc_H), mc_ev X 123 31 ls (.int y :: .int x :: st) G = mc_ev X 123 32 ls (.int (x + y) :: st) G) ∧
  (∀ (v0 v1 v2 v3 v4 : Value) (x : Int32) (st : List Value) (G : mc_H), mc_ev X 123 32 [v0, v1, v2, v3, v4] (.int x :: st) G = mc_ev X 123 34 [v0, v1, v2, v3, .int x] st G) ∧
  (∀ (v0 v1 v3 v4 : Value) (x : Int32) (st : List Value) (G : mc_H), mc_ev X 123 34 [v0, v1, .int x, v3, v4] st G = mc_ev X 123 35 [v0, v1, .int x, v3, v4] (.int x :: st) G) ∧
  (∀ (x : Int32) (ls st : List Value) (G : mc_H), mc_ev X 123 35 ls (.int x :: st) G = if x = 0 then mc_ev X 123 45 ls st G else mc_ev X 123 38 ls st G) ∧
  (∀ (v0 v1 v2 v3 : Value) (x : Int32) (st : List Value) (G : mc_H), mc_ev X 123 38 [v0, v1, v2, v3, .int x] st G = mc_ev X 123 40 [v0, v1, v2, v3, .int x] (.int x :: st) G) ∧
  (∀ (ls st : List Value) (G : mc_H), mc_ev X 123 40 ls st G = mc_ev X 123 41 ls (.int 1 :: st) G) ∧
  (∀ (x y : Int32) (ls st : List Value) (G : mc_H), mc_ev X 123 41 ls (.int y :: .int x :: st) G = mc_ev X 123 42 ls (.int (x + y) :: st) G) ∧
  (∀ (ls st : List Value) (G : mc_H), mc_ev X 123 42 ls st G = mc_ev X 123 47 ls st G) ∧
  (∀ (v0 v1 v2 v3 : Value) (x : Int32) (st : List Value) (G : mc_H), mc_ev X 123 45 [v0, v1, v2, v3, .int x] st G = mc_ev X 123 47 [v0, v1, v2, v3, .int x] (.int x :: st) G) ∧
  (∀ (v : Int32) (ls : List Value) (G : mc_H), mc_ev X 123 47 ls [.int v] G = some (some (.int v), G)) ∧
  (∀ (v0 v2 v3 v4 : Value) (x : Int32) (st : List Value) (G : mc_H), mc_ev X 123 48 [v0, .int x, v2, v3, v4] st G = mc_ev X 123 49 [v0, .int x, v2, v3, v4] (.int x :: st) G) ∧
  (∀ (v0 v1 v2 v4 : Value) (x : Int32) (st : List Value) (G : mc_H), mc_ev X 123 49 [v0, v1, v2, .int x, v4] st G = mc_ev X 123 50 [v0, v1, v2, .int x, v4] (.int x :: st) G) ∧
  (∀ (x y : Int32) (ls st : List Value) (G : mc_H), mc_ev X 123 50 ls (.int y :: .int x :: st) G = mc_ev X 123 51 ls (.int (x - y) :: st) G) ∧
  (∀ (v0 v1 v2 v3 v4 : Value) (x : Int32) (st : List Value) (G : mc_H), mc_ev X 123 51 [v0, v1, v2, v3, v4] (.int x :: st) G = mc_ev X 123 53 [v0, v1, v2, v3, .int x] st G) ∧
  (∀ (v0 v1 v3 v4 : Value) (x : Int32) (st : List Value) (G : mc_H), mc_ev X 123 53 [v0, v1, .int x, v3, v4] st G = mc_ev X 123 54 [v0, v1, .int x, v3, v4] (.int x :: st) G) ∧
  (∀ (x : Int32) (ls st : List Value) (G : mc_H), mc_ev X 123 54 ls (.int x :: st) G = if x = 0 then mc_ev X 123 67 ls st G else mc_ev X 123 57 ls st G) ∧
  (∀ (v0 v1 v2 v3 : Value) (x : Int32) (st : List Value) (G : mc_H), mc_ev X 123 57 [v0, v1, v2, v3, .int x] st G = mc_ev X 123 59 [v0, v1, v2, v3, .int x] (.int x :: st) G) ∧
  (∀ (v1 v2 v3 v4 : Value) (x : Nat) (st : List Value) (G : mc_H), mc_ev X 123 59 [.ref x, v1, v2, v3, v4] st G = mc_ev X 123 60 [.ref x, v1, v2, v3, v4] (.ref x :: st) G) ∧
  (∀ (r : Nat) (ls st : List Value) (G : mc_H), mc_ev X 123 60 ls (.ref r :: st) G = (mc_getf G r 8 4).bind (fun v => mc_ev X 123 63 ls (v :: st) G)) ∧
  (∀ (x y : Int32) (ls st : List Value) (G : mc_H), mc_ev X 123 63 ls (.int y :: .int x :: st) G = mc_ev X 123 64 ls (.int (x + y) :: st) G) ∧
  (∀ (ls st : List Value) (G : mc_H), mc_ev X 123 64 ls st G = mc_ev X 123 69 ls st G) ∧
  (∀ (v0 v1 v2 v3 : Value) (x : Int32) (st : List Value) (G : mc_H), mc_ev X 123 67 [v0, v1, v2, v3, .int x] st G = mc_ev X 123 69 [v0, v1, v2, v3, .int x] (.int x :: st) G) ∧
  (∀ (v : Int32) (ls : List Value) (G : mc_H), mc_ev X 123 69 ls [.int v] G = some (some (.int v), G)) := ⟨fun v1 v2 v3 v4 x st G => ev_aload_n rfl rfl,
  fun r ls st G hr hG => ev_virt (As := []) rfl rfl rfl rfl rfl rfl hr hG,
  fun v0 v1 v2 v3 v4 x st G => ev_istore_n (X := X) (k := 123) (pc := 4) (ls := [v0, v1, v2, v3, v4]) (st := st) (G := G) (j := 3) (x := x) rfl (Nat.le_of_ble_eq_true rfl),
  fun v0 v2 v3 v4 x st G => ev_iload_n rfl rfl,
  fun v0 v1 v2 v4 x st G => ev_iload_n rfl rfl,
  fun x y ls st G => ev_br rfl rfl,
  fun v0 v2 v3 v4 x st G => ev_iload_n rfl rfl,
  fun v1 v2 v3 v4 x st G => ev_aload_n rfl rfl,
  fun r ls st G => ev_getfield rfl,
  fun ls st G => ev_iconst rfl rfl,
  fun x y ls st G => ev_isub rfl,
  fun x y ls st G => ev_idiv rfl,
  fun v1 v2 v3 v4 x st G => ev_aload_n rfl rfl,
  fun r ls st G => ev_getfield rfl,
  fun x y ls st G => ev_imul rfl,
  fun v0 v2 v3 v4 x st G => ev_iload_n rfl rfl,
  fun v1 v2 v3 v4 x st G => ev_aload_n rfl rfl,
  fun r ls st G => ev_getfield rfl,
  fun ls st G => ev_iconst rfl rfl,
  fun x y ls st G => ev_isub rfl,
  fun x y ls st G => ev_irem rfl,
  fun x y ls st G => ev_iadd rfl,
  fun v0 v1 v2 v3 v4 x st G => ev_istore (X := X) (k := 123) (pc := 32) (ls := [v0, v1, v2, v3, v4]) (st := st) (G := G) (j := 4) (x := x) rfl (Nat.le_of_ble_eq_true rfl),
  fun v0 v1 v3 v4 x st G => ev_iload_n rfl rfl,
  fun x ls st G => ev_br rfl rfl,
  fun v0 v1 v2 v3 x st G => ev_iload rfl rfl,
  fun ls st G => ev_iconst rfl rfl,
  fun x y ls st G => ev_iadd rfl,
  fun ls st G => ev_goto rfl rfl,
  fun v0 v1 v2 v3 x st G => ev_iload rfl rfl,
  fun v ls G => ev_ireturn rfl rfl,
  fun v0 v2 v3 v4 x st G => ev_iload_n rfl rfl,
  fun v0 v1 v2 v4 x st G => ev_iload_n rfl rfl,
  fun x y ls st G => ev_isub rfl,
  fun v0 v1 v2 v3 v4 x st G => ev_istore (X := X) (k := 123) (pc := 51) (ls := [v0, v1, v2, v3, v4]) (st := st) (G := G) (j := 4) (x := x) rfl (Nat.le_of_ble_eq_true rfl),
  fun v0 v1 v3 v4 x st G => ev_iload_n rfl rfl,
  fun x ls st G => ev_br rfl rfl,
  fun v0 v1 v2 v3 x st G => ev_iload rfl rfl,
  fun v1 v2 v3 v4 x st G => ev_aload_n rfl rfl,
  fun r ls st G => ev_getfield rfl,
  fun x y ls st G => ev_iadd rfl,
  fun ls st G => ev_goto rfl rfl,
  fun v0 v1 v2 v3 x st G => ev_iload rfl rfl,
  fun v ls G => ev_ireturn rfl rfl⟩
set_option maxRecDepth 100000 in
theorem e_124 {X : mc_X} : (∀ (v0 v2 : Value) (x : Int32) (st : List Value) (G : mc_H), mc_ev X 124 0 [v0, .int x, v2] st G = mc_ev X 124 1 [v0, .int x, v2] (.int x :: st) G) ∧
  (∀ (x : Int32) (ls st : List Value) (G : mc_H), mc_ev X 124 1 ls (.int x :: st) G = if x < 0 then mc_ev X 124 28 ls st G else mc_ev X 124 4 ls st G) ∧
  (∀ (v0 v1 : Value) (x : Int32) (st : List Value) (G : mc_H), mc_ev X 124 4 [v0, v1, .int x] st G = mc_ev X 124 5 [v0, v1, .int x] (.int x :: st) G) ∧
  (∀ (x : Int32) (ls st : List Value) (G : mc_H), mc_ev X 124 5 ls (.int x :: st) G = if x < 0 then mc_ev X 124 28 ls st G else mc_ev X 124 8 ls st G) ∧
  (∀ (v0 v2 : Value) (x : Int32) (st : List Value) (G : mc_H), mc_ev X 124 8 [v0, .int x, v2] st G = mc_ev X 124 9 [v0, .int x, v2] (.int x :: st) G) ∧
  (∀ (v1 v2 : Value) (x : Nat) (st : List Value) (G : mc_H), mc_ev X 124 9 [.ref x, v1, v2] st G = mc_ev X 124 10 [.ref x, v1, v2] (.ref x :: st) G) ∧
  (∀ (r : Nat) (ls st : List Value) (G : mc_H), mc_ev X 124 10 ls (.ref r :: st) G = (mc_getf G r 8 3).bind (fun v => mc_ev X 124 13 ls (v :: st) G)) ∧
  (∀ (ls st : List Value) (G : mc_H), mc_ev X 124 13 ls st G = mc_ev X 124 14 ls (.int 1 :: st) G) ∧
  (∀ (x y : Int32) (ls st : List Value) (G : mc_H), mc_ev X 124 14 ls (.int y :: .int x :: st) G = mc_ev X 124 15 ls (.int (x - y) :: st) G) ∧
  (∀ (x y : Int32) (ls st : List Value) (G : mc_H), mc_ev X 124 15 ls (.int y :: .int x :: st) G = if x < y then mc_ev X 124 18 ls st G else mc_ev X 124 28 ls st G) ∧
  (∀ (v0 v1 : Value) (x : Int32) (st : List Value) (G : mc_H), mc_ev X 124 18 [v0, v1, .int x] st G = mc_ev X 124 19 [v0, v1, .int x] (.int x :: st) G) ∧
  (∀ (v1 v2 : Value) (x : Nat) (st : List Value) (G : mc_H), mc_ev X 124 19 [.ref x, v1, v2] st G = mc_ev X 124 20 [.ref x, v1, v2] (.ref x :: st) G) ∧
  (∀ (r : Nat) (ls st : List Value) (G : mc_H), mc_ev X 124 20 ls (.ref r :: st) G = (mc_getf G r 8 4).bind (fun v => mc_ev X 124 23 ls (v :: st) G)) ∧
  (∀ (ls st : List Value) (G : mc_H), mc_ev X 124 23 ls st G = mc_ev X 124 24 ls (.int 1 :: st) G) ∧
  (∀ (x y : Int32) (ls st : List Value) (G : mc_H), mc_ev X 124 24 ls (.int y :: .int x :: st) G = mc_ev X 124 25 ls (.int (x - y) :: st) G) ∧
  (∀ (x y : Int32) (ls st : List Value) (G : mc_H), mc_ev X 124 25 ls (.int y :: .int x :: st) G = if x < y then mc_ev X 124 37 ls st G else mc_ev X 124 28 ls st G) ∧
  (∀ (v1 v2 : Value) (x : Nat) (st : List Value) (G : mc_H), mc_ev X 124 28 [.ref x, v1, v2] st G = mc_ev X 124 29 [.ref x, v1, v2] (.ref x :: st) G) ∧
  (∀ (r : Nat) (ls st : List Value) (G : mc_H), st.length ≤ 4 → mc_cls G r = some 8 → mc_ev X 124 29 ls (.ref r :: st) G = (mc_ev X 116 0 [.ref r] [] G).bind (fun q => mc_ev X 124 32 ls (q.1.toList ++ st) q.2)) ∧
  (∀ (ls st : List Value) (G : mc_H), mc_ev X 124 32 ls st G = mc_ev X 124 33 ls (.int 1 :: st) G) ∧
  (∀ (x y : Int32) (ls st : List Value) (G : mc_H), mc_ev X 124 33 ls (.int y :: .int x :: st) G = mc_ev X 124 34 ls (.int (x - y) :: st) G) ∧
  (∀ (ls st : List Value) (G : mc_H), mc_ev X 124 34 ls st G = mc_ev X 124 47 ls st G) ∧
  (∀ (v0 v2 : Value) (x : Int32) (st : List Value) (G : mc_H), mc_ev X 124 37 [v0, .int x, v2] st G = mc_ev X 124 38 [v0, .int x, v2] (.int x :: st) G) ∧
  (∀ (v1 v2 : Value) (x : Nat) (st : List Value) (G : mc_H), mc_ev X 124 38 [.ref x, v1, v2] st G = mc_ev X 124 39 [.ref x, v1, v2] (.ref x :: st) G) ∧
  (∀ (r : Nat) (ls st : List Value) (G : mc_H), mc_ev X 124 39 ls (.ref r :: st) G = (mc_getf G r 8 4).bind (fun v => mc_ev X 124 42 ls (v :: st) G)) ∧
  (∀ (ls st : List Value) (G : mc_H), mc_ev X 124 42 ls st G = mc_ev X 124 43 ls (.int 1 :: st) G) ∧
  (∀ (x y : Int32) (ls st : List Value) (G : mc_H), mc_ev X 124 43 ls (.int y :: .int x :: st) G = mc_ev X 124 44 ls (.int (x - y) :: st) G) ∧
  (∀ (x y : Int32) (ls st : List Value) (G : mc_H), mc_ev X 124 44 ls (.int y :: .int x :: st) G = mc_ev X 124 45 ls (.int (x * y) :: st) G) ∧
  (∀ (v0 v1 : Value) (x : Int32) (st : List Value) (G : mc_H), mc_ev X 124 45 [v0, v1, .int x] st G = mc_ev X 124 46 [v0, v1, .int x] (.int x :: st) G) ∧
  (∀ (x y : Int32) (ls st : List Value) (G : mc_H), mc_ev X 124 46 ls (.int y :: .int x :: st) G = mc_ev X 124 47 ls (.int (x + y) :: st) G) ∧
  (∀ (v : Int32) (ls : List Value) (G : mc_H), mc_ev X 124 47 ls [.int v] G = some (some (.int v), G)) := ⟨fun v0 v2 x st G => ev_iload_n rfl rfl,
  fun x ls st G => ev_br rfl rfl,
  fun v0 v1 x st G => ev_iload_n rfl rfl,
  fun x ls st G => ev_br rfl rfl,
  fun v0 v2 x st G => ev_iload_n rfl rfl,
  fun v1 v2 x st G => ev_aload_n rfl rfl,
  fun r ls st G => ev_getfield rfl,
  fun ls st G => ev_iconst rfl rfl,
  fun x y ls st G => ev_isub rfl,
  fun x y ls st G => ev_br rfl rfl,
  fun v0 v1 x st G => ev_iload_n rfl rfl,
  fun v1 v2 x st G => ev_aload_n rfl rfl,
  fun r ls st G => ev_getfield rfl,
  fun ls st G => ev_iconst rfl rfl,
  fun x y ls st G => ev_isub rfl,
  fun x y ls st G => ev_br rfl rfl,
  fun v1 v2 x st G => ev_aload_n rfl rfl,
  fun r ls st G hr hG => ev_virt (As := []) rfl rfl rfl rfl rfl rfl hr hG,
  fun ls st G => ev_iconst rfl rfl,
  fun x y ls st G => ev_isub rfl,
  fun ls st G => ev_goto rfl rfl,
  fun v0 v2 x st G => ev_iload_n rfl rfl,
  fun v1 v2 x st G => ev_aload_n rfl rfl,
  fun r ls st G => ev_getfield rfl,
  fun ls st G => ev_iconst rfl rfl,
  fun x y ls st G => ev_isub rfl,
  fun x y ls st G => ev_imul rfl,
  fun v0 v1 x st G => ev_iload_n rfl rfl,
  fun x y ls st G => ev_iadd rfl,
  fun v ls G => ev_ireturn rfl rfl⟩
set_option maxRecDepth 100000 in
theorem e_125 {X : mc_X} : (∀ (v1 v2 v3 v4 v5 : Value) (x : Nat) (st : List Value) (G : mc_H), mc_ev X 125 0 [.ref x, v1, v2, v3, v4, v5] st G = mc_ev X 125 1 [.ref x, v1, v2, v3, v4, v5] (.ref x :: st) G) ∧
  (∀ (r : Nat) (ls st : List Value) (G : mc_H), st.length ≤ 4 → mc_cls G r = some 8 → mc_ev X 125 1 ls (.ref r :: st) G = (mc_ev X 114 0 [.ref r] [] G).bind (fun q => mc_ev X 125 4 ls (q.1.toList ++ st) q.2)) ∧
  (∀ (v0 v1 v2 v3 v4 v5 : Value) (x : Int32) (st : List Value) (G : mc_H), mc_ev X 125 4 [v0, v1, v2, v3, v4, v5] (.int x :: st) G = mc_ev X 125 5 [v0, v1, v2, .int x, v4, v5] st G) ∧
  (∀ (v0 v2 v3 v4 v5 : Value) (x : Int32) (st : List Value) (G : mc_H), mc_ev X 125 5 [v0, .int x, v2, v3, v4, v5] st G = mc_ev X 125 6 [v0, .int x, v2, v3, v4, v5] (.int x :: st) G) ∧
  (∀ (v0 v1 v2 v4 v5 : Value) (x : Int32) (st : List Value) (G : mc_H), mc_ev X 125 6 [v0, v1, v2, .int x, v4, v5] st G = mc_ev X 125 7 [v0, v1, v2, .int x, v4, v5] (.int x :: st) G) ∧
  (∀ (x y : Int32) (ls st : List Value) (G : mc_H), mc_ev X 125 7 ls (.int y :: .int x :: st) G = if x < y then mc_ev X 125 10 ls st G else mc_ev X 125 56 ls st G) ∧
  (∀ (v0 v2 v3 v4 v5 : Value) (x : Int32) (st : List Value) (G : mc_H), mc_ev X 125 10 [v0, .int x, v2, v3, v4, v5] st G = mc_ev X 125 11 [v0, .int x, v2, v3, v4, v5] (.int x :: st) G) ∧
  (∀ (v1 v2 v3 v4 v5 : Value) (x : Nat) (st : List Value) (G : mc_H), mc_ev X 125 11 [.ref x, v1, v2, v3, v4, v5] st G = mc_ev X 125 12 [.ref x, v1, v2, v3, v4, v5] (.ref x :: st) G) ∧
  (∀ (r : Nat) (ls st : List Value) (G : mc_H), mc_ev X 125 12 ls (.ref r :: st) G = (mc_getf G r 8 4).bind (fun v => mc_ev X 125 15 ls (v :: st) G)) ∧
  (∀ (ls st : List Value) (G : mc_H), mc_ev X 125 15 ls st G = mc_ev X 125 16 ls (.int 1 :: st) G) ∧
  (∀ (x y : Int32) (ls st : List Value) (G : mc_H), mc_ev X 125 16 ls (.int y :: .int x :: st) G = mc_ev X 125 17 ls (.int (x - y) :: st) G) ∧
  (∀ (x y : Int32) (ls st : List Value) (G : mc_H), mc_ev X 125 17 ls (.int y :: .int x :: st) G = if y = 0 then none else mc_ev X 125 18 ls (.int (x / y) :: st) G) ∧
  (∀ (v0 v1 v2 v3 v4 v5 : Value) (x : Int32) (st : List Value) (G : mc_H), mc_ev X 125 18 [v0, v1, v2, v3, v4, v5] (.int x :: st) G = mc_ev X 125 20 [v0, v1, v2, v3, .int x, v5] st G) ∧
  (∀ (v0 v2 v3 v4 v5 : Value) (x : Int32) (st : List Value) (G : mc_H), mc_ev X 125 20 [v0, .int x, v2, v3, v4, v5] st G = mc_ev X 125 21 [v0, .int x, v2, v3, v4, v5] (.int x :: st) G) ∧
  (∀ (v1 v2 v3 v4 v5 : Value) (x : Nat) (st : List Value) (G : mc_H), mc_ev X 125 21 [.ref x, v1, v2, v3, v4, v5] st G = mc_ev X 125 22 [.ref x, v1, v2, v3, v4, v5] (.ref x :: st) G) ∧
  (∀ (r : Nat) (ls st : List Value) (G : mc_H), mc_ev X 125 22 ls (.ref r :: st) G = (mc_getf G r 8 4).bind (fun v => mc_ev X 125 25 ls (v :: st) G)) ∧
  (∀ (ls st : List Value) (G : mc_H), mc_ev X 125 25 ls st G = mc_ev X 125 26 ls (.int 1 :: st) G) ∧
  (∀ (x y : Int32) (ls st : List Value) (G : mc_H), mc_ev X 125 26 ls (.int y :: .int x :: st) G = mc_ev X 125 27 ls (.int (x - y) :: st) G) ∧
  (∀ (x y : Int32) (ls st : List Value) (G : mc_H), mc_ev X 125 27 ls (.int y :: .int x :: st) G = if y = 0 then none else mc_ev X 125 28 ls (.int (x - x / y * y) :: st) G) ∧
  (∀ (v0 v1 v2 v3 v4 v5 : Value) (x : Int32) (st : List Value) (G : mc_H), mc_ev X 125 28 [v0, v1, v2, v3, v4, v5] (.int x :: st) G = mc_ev X 125 30 [v0, v1, v2, v3, v4, .int x] st G) ∧
  (∀ (v0 v1 v3 v4 v5 : Value) (x : Int32) (st : List Value) (G : mc_H), mc_ev X 125 30 [v0, v1, .int x, v3, v4, v5] st G = mc_ev X 125 31 [v0, v1, .int x, v3, v4, v5] (.int x :: st) G) ∧
  (∀ (x : Int32) (ls st : List Value) (G : mc_H), mc_ev X 125 31 ls (.int x :: st) G = if x = 0 then mc_ev X 125 45 ls st G else mc_ev X 125 34 ls st G) ∧
  (∀ (v1 v2 v3 v4 v5 : Value) (x : Nat) (st : List Value) (G : mc_H), mc_ev X 125 34 [.ref x, v1, v2, v3, v4, v5] st G = mc_ev X 125 35 [.ref x, v1, v2, v3, v4, v5] (.ref x :: st) G) ∧
  (∀ (v0 v1 v2 v3 v5 : Value) (x : Int32) (st : List Value) (G : mc_H), mc_ev X 125 35 [v0, v1, v2, v3, .int x, v5] st G = mc_ev X 125 37 [v0, v1, v2, v3, .int x, v5] (.int x :: st) G) ∧
  (∀ (v0 v1 v2 v3 v4 : Value) (x : Int32) (st : List Value) (G : mc_H), mc_ev X 125 37 [v0, v1, v2, v3, v4, .int x] st G = mc_ev X 125 39 [v0, v1, v2, v3, v4, .int x] (.int x :: st) G) ∧
  (∀ (a0 : Int32) (a1 : Int32) (r : Nat) (ls st : List Value) (G : mc_H), st.length ≤ 4 → mc_cls G r = some 8 → mc_ev X 125 39 ls (.int a1 :: .int a0 :: .ref r :: st) G = (mc_ev X 124 0 [.ref r, .int a0, .int a1] [] G).bind (fun q => mc_ev X 125 42 ls (q.1.toList ++ st) q.2)) ∧
  (∀ (ls st : List Value) (G : mc_H), mc_ev X 125 42 ls st G = mc_ev X 125 55 ls st G) ∧
  (∀ (v1 v2 v3 v4 v5 : Value) (x : Nat) (st : List Value) (G : mc_H), mc_ev X 125 45 [.ref x, v1, v2, v3, v4, v5] st G = mc_ev X 125 46 [.ref x, v1, v2, v3, v4, v5] (.ref x :: st) G) ∧
  (∀ (v0 v1 v2 v3 v5 : Value) (x : Int32) (st : List Value) (G : mc_H), mc_ev X 125 46 [v0, v1, v2, v3, .int x, v5] st G = mc_ev X 125 48 [v0, v1, v2, v3, .int x, v5] (.int x :: st) G) ∧
  (∀ (ls st : List Value) (G : mc_H), mc_ev X 125 48 ls st G = mc_ev X 125 49 ls (.int 1 :: st) G) ∧
  (∀ (x y : Int32) (ls st : List Value) (G : mc_H), mc_ev X 125 49 ls (.int y :: .int x :: st) G = mc_ev X 125 50 ls (.int (x - y) :: st) G) ∧
  (∀ (v0 v1 v2 v3 v4 : Value) (x : Int32) (st : List Value) (G : mc_H), mc_ev X 125 50 [v0, v1, v2, v3, v4, .int x] st G = mc_ev X 125 52 [v0, v1, v2, v3, v4, .int x] (.int x :: st) G) ∧
  (∀ (a0 : Int32) (a1 : Int32) (r : Nat) (ls st : List Value) (G : mc_H), st.length ≤ 4 → mc_cls G r = some 8 → mc_ev X 125 52 ls (.int a1 :: .int a0 :: .ref r :: st) G = (mc_ev X 124 0 [.ref r, .int a0, .int a1] [] G).bind (fun q => mc_ev X 125 55 ls (q.1.toList ++ st) q.2)) ∧
  (∀ (v : Int32) (ls : List Value) (G : mc_H), mc_ev X 125 55 ls [.int v] G = some (some (.int v), G)) ∧
  (∀ (v0 v2 v3 v4 v5 : Value) (x : Int32) (st : List Value) (G : mc_H), mc_ev X 125 56 [v0, .int x, v2, v3, v4, v5] st G = mc_ev X 125 57 [v0, .int x, v2, v3, v4, v5] (.int x :: st) G) ∧
  (∀ (v0 v1 v2 v4 v5 : Value) (x : Int32) (st : List Value) (G : mc_H), mc_ev X 125 57 [v0, v1, v2, .int x, v4, v5] st G = mc_ev X 125 58 [v0, v1, v2, .int x, v4, v5] (.int x :: st) G) ∧
  (∀ (x y : Int32) (ls st : List Value) (G : mc_H), mc_ev X 125 58 ls (.int y :: .int x :: st) G = mc_ev X 125 59 ls (.int (x - y) :: st) G) ∧
  (∀ (v1 v2 v3 v4 v5 : Value) (x : Nat) (st : List Value) (G : mc_H), mc_ev X 125 59 [.ref x, v1, v2, v3, v4, v5] st G = mc_ev X 125 60 [.ref x, v1, v2, v3, v4, v5] (.ref x :: st) G) ∧
  (∀ (r : Nat) (ls st : List Value) (G : mc_H), mc_ev X 125 60 ls (.ref r :: st) G = (mc_getf G r 8 4).bind (fun v => mc_ev X 125 63 ls (v :: st) G)) ∧
  (∀ (x y : Int32) (ls st : List Value) (G : mc_H), mc_ev X 125 63 ls (.int y :: .int x :: st) G = if y = 0 then none else mc_ev X 125 64 ls (.int (x / y) :: st) G) ∧
  (∀ (v0 v1 v2 v3 v4 v5 : Value) (x : Int32) (st : List Value) (G : mc_H), mc_ev X 125 64 [v0, v1, v2, v3, v4, v5] (.int x :: st) G = mc_ev X 125 66 [v0, v1, v2, v3, .int x, v5] st G) ∧
  (∀ (v0 v2 v3 v4 v5 : Value) (x : Int32) (st : List Value) (G : mc_H), mc_ev X 125 66 [v0, .int x, v2, v3, v4, v5] st G = mc_ev X 125 67 [v0, .int x, v2, v3, v4, v5] (.int x :: st) G) ∧
  (∀ (v0 v1 v2 v4 v5 : Value) (x : Int32) (st : List Value) (G : mc_H), mc_ev X 125 67 [v0, v1, v2, .int x, v4, v5] st G = mc_ev X 125 68 [v0, v1, v2, .int x, v4, v5] (.int x :: st) G) ∧
  (∀ (x y : Int32) (ls st : List Value) (G : mc_H), mc_ev X 125 68 ls (.int y :: .int x :: st) G = mc_ev X 125 69 ls (.int (x - y) :: st) G) ∧
  (∀ (v1 v2 v3 v4 v5 : Value) (x : Nat) (st : List Value) (G : mc_H), mc_ev X 125 69 [.ref x, v1, v2, v3, v4, v5] st G = mc_ev X 125 70 [.ref x, v1, v2, v3, v4, v5] (.ref x :: st) G) ∧
  (∀ (r : Nat) (ls st : List Value) (G : mc_H), mc_ev X 125 70 ls (.ref r :: st) G = (mc_getf G r 8 4).bind (fun v => mc_ev X 125 73 ls (v :: st) G)) ∧
  (∀ (x y : Int32) (ls st : List Value) (G : mc_H), mc_ev X 125 73 ls (.int y :: .int x :: st) G = if y = 0 then none else mc_ev X 125 74 ls (.int (x - x / y * y) :: st) G) ∧
  (∀ (v0 v1 v2 v3 v4 v5 : Value) (x : Int32) (st : List Value) (G : mc_H), mc_ev X 125 74 [v0, v1, v2, v3, v4, v5] (.int x :: st) G = mc_ev X 125 76 [v0, v1, v2, v3, v4, .int x] st G) ∧
  (∀ (v0 v1 v3 v4 v5 : Value) (x : Int32) (st : List Value) (G : mc_H), mc_ev X 125 76 [v0, v1, .int x, v3, v4, v5] st G = mc_ev X 125 77 [v0, v1, .int x, v3, v4, v5] (.int x :: st) G) ∧
  (∀ (x : Int32) (ls st : List Value) (G : mc_H), mc_ev X 125 77 ls (.int x :: st) G = if x = 0 then mc_ev X 125 91 ls st G else mc_ev X 125 80 ls st G) ∧
  (∀ (v1 v2 v3 v4 v5 : Value) (x : Nat) (st : List Value) (G : mc_H), mc_ev X 125 80 [.ref x, v1, v2, v3, v4, v5] st G = mc_ev X 125 81 [.ref x, v1, v2, v3, v4, v5] (.ref x :: st) G) ∧
  (∀ (v0 v1 v2 v3 v5 : Value) (x : Int32) (st : List Value) (G : mc_H), mc_ev X 125 81 [v0, v1, v2, v3, .int x, v5] st G = mc_ev X 125 83 [v0, v1, v2, v3, .int x, v5] (.int x :: st) G) ∧
  (∀ (v0 v1 v2 v3 v4 : Value) (x : Int32) (st : List Value) (G : mc_H), mc_ev X 125 83 [v0, v1, v2, v3, v4, .int x] st G = mc_ev X 125 85 [v0, v1, v2, v3, v4, .int x] (.int x :: st) G) ∧
  (∀ (a0 : Int32) (a1 : Int32) (r : Nat) (ls st : List Value) (G : mc_H), st.length ≤ 4 → mc_cls G r = some 8 → mc_ev X 125 85 ls (.int a1 :: .int a0 :: .ref r :: st) G = (mc_ev X 124 0 [.ref r, .int a0, .int a1] [] G).bind (fun q => mc_ev X 125 88 ls (q.1.toList ++ st) q.2)) ∧
  (∀ (ls st : List Value) (G : mc_H), mc_ev X 125 88 ls st G = mc_ev X 125 101 ls st G) ∧
  (∀ (v1 v2 v3 v4 v5 : Value) (x : Nat) (st : List Value) (G : mc_H), mc_ev X 125 91 [.ref x, v1, v2, v3, v4, v5] st G = mc_ev X 125 92 [.ref x, v1, v2, v3, v4, v5] (.ref x :: st) G) ∧
  (∀ (v0 v1 v2 v3 v5 : Value) (x : Int32) (st : List Value) (G : mc_H), mc_ev X 125 92 [v0, v1, v2, v3, .int x, v5] st G = mc_ev X 125 94 [v0, v1, v2, v3, .int x, v5] (.int x :: st) G) ∧
  (∀ (v0 v1 v2 v3 v4 : Value) (x : Int32) (st : List Value) (G : mc_H), mc_ev X 125 94 [v0, v1, v2, v3, v4, .int x] st G = mc_ev X 125 96 [v0, v1, v2, v3, v4, .int x] (.int x :: st) G) ∧
  (∀ (ls st : List Value) (G : mc_H), mc_ev X 125 96 ls st G = mc_ev X 125 97 ls (.int 1 :: st) G) ∧
  (∀ (x y : Int32) (ls st : List Value) (G : mc_H), mc_ev X 125 97 ls (.int y :: .int x :: st) G = mc_ev X 125 98 ls (.int (x - y) :: st) G) ∧
  (∀ (a0 : Int32) (a1 : Int32) (r : Nat) (ls st : List Value) (G : mc_H), st.length ≤ 4 → mc_cls G r = some 8 → mc_ev X 125 98 ls (.int a1 :: .int a0 :: .ref r :: st) G = (mc_ev X 124 0 [.ref r, .int a0, .int a1] [] G).bind (fun q => mc_ev X 125 101 ls (q.1.toList ++ st) q.2)) ∧
  (∀ (v : Int32) (ls : List Value) (G : mc_H), mc_ev X 125 101 ls [.int v] G = some (some (.int v), G)) := ⟨fun v1 v2 v3 v4 v5 x st G => ev_aload_n rfl rfl,
  fun r ls st G hr hG => ev_virt (As := []) rfl rfl rfl rfl rfl rfl hr hG,
  fun v0 v1 v2 v3 v4 v5 x st G => ev_istore_n (X := X) (k := 125) (pc := 4) (ls := [v0, v1, v2, v3, v4, v5]) (st := st) (G := G) (j := 3) (x := x) rfl (Nat.le_of_ble_eq_true rfl),
  fun v0 v2 v3 v4 v5 x st G => ev_iload_n rfl rfl,
  fun v0 v1 v2 v4 v5 x st G => ev_iload_n rfl rfl,
  fun x y ls st G => ev_br rfl rfl,
  fun v0 v2 v3 v4 v5 x st G => ev_iload_n rfl rfl,
  fun v1 v2 v3 v4 v5 x st G => ev_aload_n rfl rfl,
  fun r ls st G => ev_getfield rfl,
  fun ls st G => ev_iconst rfl rfl,
  fun x y ls st G => ev_isub rfl,
  fun x y ls st G => ev_idiv rfl,
  fun v0 v1 v2 v3 v4 v5 x st G => ev_istore (X := X) (k := 125) (pc := 18) (ls := [v0, v1, v2, v3, v4, v5]) (st := st) (G := G) (j := 4) (x := x) rfl (Nat.le_of_ble_eq_true rfl),
  fun v0 v2 v3 v4 v5 x st G => ev_iload_n rfl rfl,
  fun v1 v2 v3 v4 v5 x st G => ev_aload_n rfl rfl,
  fun r ls st G => ev_getfield rfl,
  fun ls st G => ev_iconst rfl rfl,
  fun x y ls st G => ev_isub rfl,
  fun x y ls st G => ev_irem rfl,
  fun v0 v1 v2 v3 v4 v5 x st G => ev_istore (X := X) (k := 125) (pc := 28) (ls := [v0, v1, v2, v3, v4, v5]) (st := st) (G := G) (j := 5) (x := x) rfl (Nat.le_of_ble_eq_true rfl),
  fun v0 v1 v3 v4 v5 x st G => ev_iload_n rfl rfl,
  fun x ls st G => ev_br rfl rfl,
  fun v1 v2 v3 v4 v5 x st G => ev_aload_n rfl rfl,
  fun v0 v1 v2 v3 v5 x st G => ev_iload rfl rfl,
  fun v0 v1 v2 v3 v4 x st G => ev_iload rfl rfl,
  fun a0 a1 r ls st G hr hG => ev_virt (As := [.int a0, .int a1]) rfl rfl rfl rfl rfl rfl hr hG,
  fun ls st G => ev_goto rfl rfl,
  fun v1 v2 v3 v4 v5 x st G => ev_aload_n rfl rfl,
  fun v0 v1 v2 v3 v5 x st G => ev_iload rfl rfl,
  fun ls st G => ev_iconst rfl rfl,
  fun x y ls st G => ev_isub rfl,
  fun v0 v1 v2 v3 v4 x st G => ev_iload rfl rfl,
  fun a0 a1 r ls st G hr hG => ev_virt (As := [.int a0, .int a1]) rfl rfl rfl rfl rfl rfl hr hG,
  fun v ls G => ev_ireturn rfl rfl,
  fun v0 v2 v3 v4 v5 x st G => ev_iload_n rfl rfl,
  fun v0 v1 v2 v4 v5 x st G => ev_iload_n rfl rfl,
  fun x y ls st G => ev_isub rfl,
  fun v1 v2 v3 v4 v5 x st G => ev_aload_n rfl rfl,
  fun r ls st G => ev_getfield rfl,
  fun x y ls st G => ev_idiv rfl,
  fun v0 v1 v2 v3 v4 v5 x st G => ev_istore (X := X) (k := 125) (pc := 64) (ls := [v0, v1, v2, v3, v4, v5]) (st := st) (G := G) (j := 4) (x := x) rfl (Nat.le_of_ble_eq_true rfl),
  fun v0 v2 v3 v4 v5 x st G => ev_iload_n rfl rfl,
  fun v0 v1 v2 v4 v5 x st G => ev_iload_n rfl rfl,
  fun x y ls st G => ev_isub rfl,
  fun v1 v2 v3 v4 v5 x st G => ev_aload_n rfl rfl,
  fun r ls st G => ev_getfield rfl,
  fun x y ls st G => ev_irem rfl,
  fun v0 v1 v2 v3 v4 v5 x st G => ev_istore (X := X) (k := 125) (pc := 74) (ls := [v0, v1, v2, v3, v4, v5]) (st := st) (G := G) (j := 5) (x := x) rfl (Nat.le_of_ble_eq_true rfl),
  fun v0 v1 v3 v4 v5 x st G => ev_iload_n rfl rfl,
  fun x ls st G => ev_br rfl rfl,
  fun v1 v2 v3 v4 v5 x st G => ev_aload_n rfl rfl,
  fun v0 v1 v2 v3 v5 x st G => ev_iload rfl rfl,
  fun v0 v1 v2 v3 v4 x st G => ev_iload rfl rfl,
  fun a0 a1 r ls st G hr hG => ev_virt (As := [.int a0, .int a1]) rfl rfl rfl rfl rfl rfl hr hG,
  fun ls st G => ev_goto rfl rfl,
  fun v1 v2 v3 v4 v5 x st G => ev_aload_n rfl rfl,
  fun v0 v1 v2 v3 v5 x st G => ev_iload rfl rfl,
  fun v0 v1 v2 v3 v4 x st G => ev_iload rfl rfl,
  fun ls st G => ev_iconst rfl rfl,
  fun x y ls st G => ev_isub rfl,
  fun a0 a1 r ls st G hr hG => ev_virt (As := [.int a0, .int a1]) rfl rfl rfl rfl rfl rfl hr hG,
  fun v ls G => ev_ireturn rfl rfl⟩
set_option maxRecDepth 100000 in
theorem e_126 {X : mc_X} : (∀ (v1 : Value) (x : Nat) (st : List Value) (G : mc_H), mc_ev X 126 0 [.ref x, v1] st G = mc_ev X 126 1 [.ref x, v1] (.ref x :: st) G) ∧
  (∀ (r : Nat) (ls st : List Value) (G : mc_H), mc_ev X 126 1 ls (.ref r :: st) G = (mc_getf G r 8 9).bind (fun v => mc_ev X 126 4 ls (v :: st) G)) ∧
  (∀ (v0 : Value) (x : Int32) (st : List Value) (G : mc_H), mc_ev X 126 4 [v0, .int x] st G = mc_ev X 126 5 [v0, .int x] (.int x :: st) G) ∧
  (∀ (i : Int32) (r : Value) (ls st : List Value) (G : mc_H), mc_ev X 126 5 ls (.int i :: r :: st) G = (mc_getA X G 0 r i).bind (fun x => mc_ev X 126 6 ls (.int x :: st) G)) ∧
  (∀ (v1 : Value) (x : Nat) (st : List Value) (G : mc_H), mc_ev X 126 6 [.ref x, v1] st G = mc_ev X 126 7 [.ref x, v1] (.ref x :: st) G) ∧
  (∀ (v1 : Value) (x : Nat) (st : List Value) (G : mc_H), mc_ev X 126 7 [.ref x, v1] st G = mc_ev X 126 8 [.ref x, v1] (.ref x :: st) G) ∧
  (∀ (v0 : Value) (x : Int32) (st : List Value) (G : mc_H), mc_ev X 126 8 [v0, .int x] st G = mc_ev X 126 9 [v0, .int x] (.int x :: st) G) ∧
  (∀ (ls st : List Value) (G : mc_H), mc_ev X 126 9 ls st G = mc_ev X 126 10 ls (.int 0 :: st) G) ∧
  (∀ (a0 : Int32) (a1 : Int32) (r : Nat) (ls st : List Value) (G : mc_H), st.length ≤ 4 → mc_cls G r = some 8 → mc_ev X 126 10 ls (.int a1 :: .int a0 :: .ref r :: st) G = (mc_ev X 123 0 [.ref r, .int a0, .int a1, .null, .null] [] G).bind (fun q => mc_ev X 126 13 ls (q.1.toList ++ st) q.2)) ∧
  (∀ (a0 : Int32) (r : Nat) (ls st : List Value) (G : mc_H), st.length ≤ 4 → mc_cls G r = some 8 → mc_ev X 126 13 ls (.int a0 :: .ref r :: st) G = (mc_ev X 122 0 [.ref r, .int a0] [] G).bind (fun q => mc_ev X 126 16 ls (q.1.toList ++ st) q.2)) ∧
  (∀ (x y : Int32) (ls st : List Value) (G : mc_H), mc_ev X 126 16 ls (.int y :: .int x :: st) G = mc_ev X 126 17 ls (.int (x * y) :: st) G) ∧
  (∀ (v1 : Value) (x : Nat) (st : List Value) (G : mc_H), mc_ev X 126 17 [.ref x, v1] st G = mc_ev X 126 18 [.ref x, v1] (.ref x :: st) G) ∧
  (∀ (v1 : Value) (x : Nat) (st : List Value) (G : mc_H), mc_ev X 126 18 [.ref x, v1] st G = mc_ev X 126 19 [.ref x, v1] (.ref x :: st) G) ∧
  (∀ (v0 : Value) (x : Int32) (st : List Value) (G : mc_H), mc_ev X 126 19 [v0, .int x] st G = mc_ev X 126 20 [v0, .int x] (.int x :: st) G) ∧
  (∀ (ls st : List Value) (G : mc_H), mc_ev X 126 20 ls st G = mc_ev X 126 21 ls (.int 1 :: st) G) ∧
  (∀ (a0 : Int32) (a1 : Int32) (r : Nat) (ls st : List Value) (G : mc_H), st.length ≤ 4 → mc_cls G r = some 8 → mc_ev X 126 21 ls (.int a1 :: .int a0 :: .ref r :: st) G = (mc_ev X 123 0 [.ref r, .int a0, .int a1, .null, .null] [] G).bind (fun q => mc_ev X 126 24 ls (q.1.toList ++ st) q.2)) ∧
  (∀ (a0 : Int32) (r : Nat) (ls st : List Value) (G : mc_H), st.length ≤ 4 → mc_cls G r = some 8 → mc_ev X 126 24 ls (.int a0 :: .ref r :: st) G = (mc_ev X 122 0 [.ref r, .int a0] [] G).bind (fun q => mc_ev X 126 27 ls (q.1.toList ++ st) q.2)) ∧
  (∀ (x y : Int32) (ls st : List Value) (G : mc_H), mc_ev X 126 27 ls (.int y :: .int x :: st) G = mc_ev X 126 28 ls (.int (x * y) :: st) G) ∧
  (∀ (v : Int32) (ls : List Value) (G : mc_H), mc_ev X 126 28 ls [.int v] G = some (some (.int v), G)) := ⟨fun v1 x st G => ev_aload_n rfl rfl,
  fun r ls st G => ev_getfield rfl,
  fun v0 x st G => ev_iload_n rfl rfl,
  fun i r ls st G => ev_iaload rfl,
  fun v1 x st G => ev_aload_n rfl rfl,
  fun v1 x st G => ev_aload_n rfl rfl,
  fun v0 x st G => ev_iload_n rfl rfl,
  fun ls st G => ev_iconst rfl rfl,
  fun a0 a1 r ls st G hr hG => ev_virt (As := [.int a0, .int a1]) rfl rfl rfl rfl rfl rfl hr hG,
  fun a0 r ls st G hr hG => ev_virt (As := [.int a0]) rfl rfl rfl rfl rfl rfl hr hG,
  fun x y ls st G => ev_imul rfl,
  fun v1 x st G => ev_aload_n rfl rfl,
  fun v1 x st G => ev_aload_n rfl rfl,
  fun v0 x st G => ev_iload_n rfl rfl,
  fun ls st G => ev_iconst rfl rfl,
  fun a0 a1 r ls st G hr hG => ev_virt (As := [.int a0, .int a1]) rfl rfl rfl rfl rfl rfl hr hG,
  fun a0 r ls st G hr hG => ev_virt (As := [.int a0]) rfl rfl rfl rfl rfl rfl hr hG,
  fun x y ls st G => ev_imul rfl,
  fun v ls G => ev_ireturn rfl rfl⟩
set_option maxRecDepth 100000 in
theorem e_127 {X : mc_X} : (∀ (v1 v2 : Value) (x : Nat) (st : List Value) (G : mc_H), mc_ev X 127 0 [.ref x, v1, v2] st G = mc_ev X 127 1 [.ref x, v1, v2] (.ref x :: st) G) ∧
  (∀ (v0 v2 : Value) (x : Int32) (st : List Value) (G : mc_H), mc_ev X 127 1 [v0, .int x, v2] st G = mc_ev X 127 2 [v0, .int x, v2] (.int x :: st) G) ∧
  (∀ (a0 : Int32) (r : Nat) (ls st : List Value) (G : mc_H), st.length ≤ 4 → mc_cls G r = some 8 → mc_ev X 127 2 ls (.int a0 :: .ref r :: st) G = (mc_ev X 126 0 [.ref r, .int a0] [] G).bind (fun q => mc_ev X 127 5 ls (q.1.toList ++ st) q.2)) ∧
  (∀ (v0 v1 v2 : Value) (x : Int32) (st : List Value) (G : mc_H), mc_ev X 127 5 [v0, v1, v2] (.int x :: st) G = mc_ev X 127 6 [v0, v1, .int x] st G) ∧
  (∀ (v0 v1 : Value) (x : Int32) (st : List Value) (G : mc_H), mc_ev X 127 6 [v0, v1, .int x] st G = mc_ev X 127 7 [v0, v1, .int x] (.int x :: st) G) ∧
  (∀ (x : Int32) (ls st : List Value) (G : mc_H), mc_ev X 127 7 ls (.int x :: st) G = if x < 0 then mc_ev X 127 10 ls st G else mc_ev X 127 15 ls st G) ∧
  (∀ (v0 v1 : Value) (x : Int32) (st : List Value) (G : mc_H), mc_ev X 127 10 [v0, v1, .int x] st G = mc_ev X 127 11 [v0, v1, .int x] (.int x :: st) G) ∧
  (∀ (x : Int32) (ls st : List Value) (G : mc_H), mc_ev X 127 11 ls (.int x :: st) G = mc_ev X 127 12 ls (.int (-x) :: st) G) ∧
  (∀ (ls st : List Value) (G : mc_H), mc_ev X 127 12 ls st G = mc_ev X 127 16 ls st G) ∧
  (∀ (v0 v1 : Value) (x : Int32) (st : List Value) (G : mc_H), mc_ev X 127 15 [v0, v1, .int x] st G = mc_ev X 127 16 [v0, v1, .int x] (.int x :: st) G) ∧
  (∀ (v : Int32) (ls : List Value) (G : mc_H), mc_ev X 127 16 ls [.int v] G = some (some (.int v), G)) := ⟨fun v1 v2 x st G => ev_aload_n rfl rfl,
  fun v0 v2 x st G => ev_iload_n rfl rfl,
  fun a0 r ls st G hr hG => ev_virt (As := [.int a0]) rfl rfl rfl rfl rfl rfl hr hG,
  fun v0 v1 v2 x st G => ev_istore_n (X := X) (k := 127) (pc := 5) (ls := [v0, v1, v2]) (st := st) (G := G) (j := 2) (x := x) rfl (Nat.le_of_ble_eq_true rfl),
  fun v0 v1 x st G => ev_iload_n rfl rfl,
  fun x ls st G => ev_br rfl rfl,
  fun v0 v1 x st G => ev_iload_n rfl rfl,
  fun x ls st G => ev_ineg rfl,
  fun ls st G => ev_goto rfl rfl,
  fun v0 v1 x st G => ev_iload_n rfl rfl,
  fun v ls G => ev_ireturn rfl rfl⟩
set_option maxRecDepth 100000 in
theorem e_128 {X : mc_X} : (∀ (v1 v2 : Value) (x : Int32) (st : List Value) (G : mc_H), mc_ev X 128 0 [.int x, v1, v2] st G = mc_ev X 128 1 [.int x, v1, v2] (.int x :: st) G) ∧
  (∀ (v0 v1 : Value) (x : Int32) (st : List Value) (G : mc_H), mc_ev X 128 1 [v0, v1, .int x] st G = mc_ev X 128 2 [v0, v1, .int x] (.int x :: st) G) ∧
  (∀ (ls st : List Value) (G : mc_H), mc_ev X 128 2 ls st G = mc_ev X 128 3 ls (.int 1 :: st) G) ∧
  (∀ (x y : Int32) (ls st : List Value) (G : mc_H), mc_ev X 128 3 ls (.int y :: .int x :: st) G = mc_ev X 128 4 ls (.int (x - y) :: st) G) ∧
  (∀ (v0 v2 : Value) (x : Int32) (st : List Value) (G : mc_H), mc_ev X 128 4 [v0, .int x, v2] st G = mc_ev X 128 5 [v0, .int x, v2] (.int x :: st) G) ∧
  (∀ (x y : Int32) (ls st : List Value) (G : mc_H), mc_ev X 128 5 ls (.int y :: .int x :: st) G = mc_ev X 128 6 ls (.int (x - y) :: st) G) ∧
  (∀ (x y : Int32) (ls st : List Value) (G : mc_H), mc_ev X 128 6 ls (.int y :: .int x :: st) G = mc_ev X 128 7 ls (.int (x >>> (y &&& 31)) :: st) G) ∧
  (∀ (ls st : List Value) (G : mc_H), mc_ev X 128 7 ls st G = mc_ev X 128 8 ls (.int 1 :: st) G) ∧
  (∀ (x y : Int32) (ls st : List Value) (G : mc_H), mc_ev X 128 8 ls (.int y :: .int x :: st) G = mc_ev X 128 9 ls (.int (x &&& y) :: st) G) ∧
  (∀ (v : Int32) (ls : List Value) (G : mc_H), mc_ev X 128 9 ls [.int v] G = some (some (.int v), G)) := ⟨fun v1 v2 x st G => ev_iload_n rfl rfl,
  fun v0 v1 x st G => ev_iload_n rfl rfl,
  fun ls st G => ev_iconst rfl rfl,
  fun x y ls st G => ev_isub rfl,
  fun v0 v2 x st G => ev_iload_n rfl rfl,
  fun x y ls st G => ev_isub rfl,
  fun x y ls st G => ev_ishr rfl,
  fun ls st G => ev_iconst rfl rfl,
  fun x y ls st G => ev_iand rfl,
  fun v ls G => ev_ireturn rfl rfl⟩
set_option maxRecDepth 100000 in
theorem h_129_10 {X : mc_X} : ∀ (v0 v1 v2 v3 v5 v6 : Value) (x : Int32) (st : List Value) (G : mc_H), mc_ev X 129 10 [v0, v1, v2, v3, .int x, v5, v6] st G = mc_ev X 129 12 [v0, v1, v2, v3, .int x, v5, v6] (.int x :: st) G := fun v0 v1 v2 v3 v5 v6 x st G => ev_iload rfl rfl
set_option maxRecDepth 100000 in
theorem e_129 {X : mc_X} : (∀ (ls st : List Value) (G : mc_H), mc_ev X 129 0 ls st G = mc_ev X 129 1 ls (.int 0 :: st) G) ∧
  (∀ (v0 v1 v2 v3 v4 v5 v6 : Value) (x : Int32) (st : List Value) (G : mc_H), mc_ev X 129 1 [v0, v1, v2, v3, v4, v5, v6] (.int x :: st) G = mc_ev X 129 2 [v0, v1, .int x, v3, v4, v5, v6] st G) ∧
  (∀ (v1 v2 v3 v4 v5 v6 : Value) (x : Nat) (st : List Value) (G : mc_H), mc_ev X 129 2 [.ref x, v1, v2, v3, v4, v5, v6] st G = mc_ev X 129 3 [.ref x, v1, v2, v3, v4, v5, v6] (.ref x :: st) G) ∧
  (∀ (r : Nat) (ls st : List Value) (G : mc_H), st.length ≤ 4 → mc_cls G r = some 8 → mc_ev X 129 3 ls (.ref r :: st) G = (mc_ev X 113 0 [.ref r] [] G).bind (fun q => mc_ev X 129 6 ls (q.1.toList ++ st) q.2)) ∧
  (∀ (v0 v1 v2 v3 v4 v5 v6 : Value) (x : Int32) (st : List Value) (G : mc_H), mc_ev X 129 6 [v0, v1, v2, v3, v4, v5, v6] (.int x :: st) G = mc_ev X 129 7 [v0, v1, v2, .int x, v4, v5, v6] st G) ∧
  (∀ (ls st : List Value) (G : mc_H), mc_ev X 129 7 ls st G = mc_ev X 129 8 ls (.int 0 :: st) G) ∧
  (∀ (v0 v1 v2 v3 v4 v5 v6 : Value) (x : Int32) (st : List Value) (G : mc_H), mc_ev X 129 8 [v0, v1, v2, v3, v4, v5, v6] (.int x :: st) G = mc_ev X 129 10 [v0, v1, v2, v3, .int x, v5, v6] st G) ∧
  (∀ (v1 v2 v3 v4 v5 v6 : Value) (x : Nat) (st : List Value) (G : mc_H), mc_ev X 129 12 [.ref x, v1, v2, v3, v4, v5, v6] st G = mc_ev X 129 13 [.ref x, v1, v2, v3, v4, v5, v6] (.ref x :: st) G) ∧
  (∀ (r : Nat) (ls st : List Value) (G : mc_H), st.length ≤ 4 → mc_cls G r = some 8 → mc_ev X 129 13 ls (.ref r :: st) G = (mc_ev X 115 0 [.ref r] [] G).bind (fun q => mc_ev X 129 16 ls (q.1.toList ++ st) q.2)) ∧
  (∀ (x y : Int32) (ls st : List Value) (G : mc_H), mc_ev X 129 16 ls (.int y :: .int x :: st) G = if x < y then mc_ev X 129 19 ls st G else mc_ev X 129 102 ls st G) ∧
  (∀ (v0 v2 v3 v4 v5 v6 : Value) (x : Int32) (st : List Value) (G : mc_H), mc_ev X 129 19 [v0, .int x, v2, v3, v4, v5, v6] st G = mc_ev X 129 20 [v0, .int x, v2, v3, v4, v5, v6] (.int x :: st) G) ∧
  (∀ (v1 v2 v3 v4 v5 v6 : Value) (x : Nat) (st : List Value) (G : mc_H), mc_ev X 129 20 [.ref x, v1, v2, v3, v4, v5, v6] st G = mc_ev X 129 21 [.ref x, v1, v2, v3, v4, v5, v6] (.ref x :: st) G) ∧
  (∀ (v0 v1 v2 v3 v5 v6 : Value) (x : Int32) (st : List Value) (G : mc_H), mc_ev X 129 21 [v0, v1, v2, v3, .int x, v5, v6] st G = mc_ev X 129 23 [v0, v1, v2, v3, .int x, v5, v6] (.int x :: st) G) ∧
  (∀ (ls st : List Value) (G : mc_H), mc_ev X 129 23 ls st G = mc_ev X 129 24 ls (.int 0 :: st) G) ∧
  (∀ (a0 : Int32) (a1 : Int32) (r : Nat) (ls st : List Value) (G : mc_H), st.length ≤ 4 → mc_cls G r = some 8 → mc_ev X 129 24 ls (.int a1 :: .int a0 :: .ref r :: st) G = (mc_ev X 123 0 [.ref r, .int a0, .int a1, .null, .null] [] G).bind (fun q => mc_ev X 129 27 ls (q.1.toList ++ st) q.2)) ∧
  (∀ (v0 v1 v2 v4 v5 v6 : Value) (x : Int32) (st : List Value) (G : mc_H), mc_ev X 129 27 [v0, v1, v2, .int x, v4, v5, v6] st G = mc_ev X 129 28 [v0, v1, v2, .int x, v4, v5, v6] (.int x :: st) G) ∧
  (∀ (a0 : Int32) (a1 : Int32) (a2 : Int32) (ls st : List Value) (G : mc_H), st.length ≤ 4 → mc_ev X 129 28 ls (.int a2 :: .int a1 :: .int a0 :: st) G = (mc_ev X 128 0 [.int a0, .int a1, .int a2] [] G).bind (fun q => mc_ev X 129 31 ls (q.1.toList ++ st) q.2)) ∧
  (∀ (v0 v2 v3 v4 v5 v6 : Value) (x : Int32) (st : List Value) (G : mc_H), mc_ev X 129 31 [v0, .int x, v2, v3, v4, v5, v6] st G = mc_ev X 129 32 [v0, .int x, v2, v3, v4, v5, v6] (.int x :: st) G) ∧
  (∀ (v1 v2 v3 v4 v5 v6 : Value) (x : Nat) (st : List Value) (G : mc_H), mc_ev X 129 32 [.ref x, v1, v2, v3, v4, v5, v6] st G = mc_ev X 129 33 [.ref x, v1, v2, v3, v4, v5, v6] (.ref x :: st) G) ∧
  (∀ (v0 v1 v2 v3 v5 v6 : Value) (x : Int32) (st : List Value) (G : mc_H), mc_ev X 129 33 [v0, v1, v2, v3, .int x, v5, v6] st G = mc_ev X 129 35 [v0, v1, v2, v3, .int x, v5, v6] (.int x :: st) G) ∧
  (∀ (ls st : List Value) (G : mc_H), mc_ev X 129 35 ls st G = mc_ev X 129 36 ls (.int 1 :: st) G) ∧
  (∀ (a0 : Int32) (a1 : Int32) (r : Nat) (ls st : List Value) (G : mc_H), st.length ≤ 4 → mc_cls G r = some 8 → mc_ev X 129 36 ls (.int a1 :: .int a0 :: .ref r :: st) G = (mc_ev X 123 0 [.ref r, .int a0, .int a1, .null, .null] [] G).bind (fun q => mc_ev X 129 39 ls (q.1.toList ++ st) q.2)) ∧
  (∀ (v0 v1 v2 v4 v5 v6 : Value) (x : Int32) (st : List Value) (G : mc_H), mc_ev X 129 39 [v0, v1, v2, .int x, v4, v5, v6] st G = mc_ev X 129 40 [v0, v1, v2, .int x, v4, v5, v6] (.int x :: st) G) ∧
  (∀ (a0 : Int32) (a1 : Int32) (a2 : Int32) (ls st : List Value) (G : mc_H), st.length ≤ 4 → mc_ev X 129 40 ls (.int a2 :: .int a1 :: .int a0 :: st) G = (mc_ev X 128 0 [.int a0, .int a1, .int a2] [] G).bind (fun q => mc_ev X 129 43 ls (q.1.toList ++ st) q.2)) ∧
  (∀ (x y : Int32) (ls st : List Value) (G : mc_H), mc_ev X 129 43 ls (.int y :: .int x :: st) G = if x = y then mc_ev X 129 46 ls st G else mc_ev X 129 50 ls st G) ∧
  (∀ (ls st : List Value) (G : mc_H), mc_ev X 129 46 ls st G = mc_ev X 129 47 ls (.int 1 :: st) G) ∧
  (∀ (ls st : List Value) (G : mc_H), mc_ev X 129 47 ls st G = mc_ev X 129 51 ls st G) ∧
  (∀ (ls st : List Value) (G : mc_H), mc_ev X 129 50 ls st G = mc_ev X 129 51 ls (.int 0 :: st) G) ∧
  (∀ (v0 v1 v2 v3 v4 v5 v6 : Value) (x : Int32) (st : List Value) (G : mc_H), mc_ev X 129 51 [v0, v1, v2, v3, v4, v5, v6] (.int x :: st) G = mc_ev X 129 53 [v0, v1, v2, v3, v4, .int x, v6] st G) ∧
  (∀ (v1 v2 v3 v4 v5 v6 : Value) (x : Nat) (st : List Value) (G : mc_H), mc_ev X 129 53 [.ref x, v1, v2, v3, v4, v5, v6] st G = mc_ev X 129 54 [.ref x, v1, v2, v3, v4, v5, v6] (.ref x :: st) G) ∧
  (∀ (v0 v1 v2 v3 v5 v6 : Value) (x : Int32) (st : List Value) (G : mc_H), mc_ev X 129 54 [v0, v1, v2, v3, .int x, v5, v6] st G = mc_ev X 129 56 [v0, v1, v2, v3, .int x, v5, v6] (.int x :: st) G) ∧
  (∀ (a0 : Int32) (r : Nat) (ls st : List Value) (G : mc_H), st.length ≤ 4 → mc_cls G r = some 8 → mc_ev X 129 56 ls (.int a0 :: .ref r :: st) G = (mc_ev X 126 0 [.ref r, .int a0] [] G).bind (fun q => mc_ev X 129 59 ls (q.1.toList ++ st) q.2)) ∧
  (∀ (v0 v1 v2 v3 v4 v5 v6 : Value) (x : Int32) (st : List Value) (G : mc_H), mc_ev X 129 59 [v0, v1, v2, v3, v4, v5, v6] (.int x :: st) G = mc_ev X 129 61 [v0, v1, v2, v3, v4, v5, .int x] st G) ∧
  (∀ (v0 v1 v3 v4 v5 v6 : Value) (x : Int32) (st : List Value) (G : mc_H), mc_ev X 129 61 [v0, v1, .int x, v3, v4, v5, v6] st G = mc_ev X 129 62 [v0, v1, .int x, v3, v4, v5, v6] (.int x :: st) G) ∧
  (∀ (v0 v1 v2 v3 v4 v5 : Value) (x : Int32) (st : List Value) (G : mc_H), mc_ev X 129 62 [v0, v1, v2, v3, v4, v5, .int x] st G = mc_ev X 129 64 [v0, v1, v2, v3, v4, v5, .int x] (.int x :: st) G) ∧
  (∀ (x : Int32) (ls st : List Value) (G : mc_H), mc_ev X 129 64 ls (.int x :: st) G = if 0 < x then mc_ev X 129 67 ls st G else mc_ev X 129 77 ls st G) ∧
  (∀ (v0 v1 v2 v3 v4 v6 : Value) (x : Int32) (st : List Value) (G : mc_H), mc_ev X 129 67 [v0, v1, v2, v3, v4, .int x, v6] st G = mc_ev X 129 69 [v0, v1, v2, v3, v4, .int x, v6] (.int x :: st) G) ∧
  (∀ (x : Int32) (ls st : List Value) (G : mc_H), mc_ev X 129 69 ls (.int x :: st) G = if x = 0 then mc_ev X 129 72 ls st G else mc_ev X 129 77 ls st G) ∧
  (∀ (v0 v1 v2 v3 v4 v5 : Value) (x : Int32) (st : List Value) (G : mc_H), mc_ev X 129 72 [v0, v1, v2, v3, v4, v5, .int x] st G = mc_ev X 129 74 [v0, v1, v2, v3, v4, v5, .int x] (.int x :: st) G) ∧
  (∀ (ls st : List Value) (G : mc_H), mc_ev X 129 74 ls st G = mc_ev X 129 94 ls st G) ∧
  (∀ (v0 v1 v2 v3 v4 v5 : Value) (x : Int32) (st : List Value) (G : mc_H), mc_ev X 129 77 [v0, v1, v2, v3, v4, v5, .int x] st G = mc_ev X 129 79 [v0, v1, v2, v3, v4, v5, .int x] (.int x :: st) G) ∧
  (∀ (x : Int32) (ls st : List Value) (G : mc_H), mc_ev X 129 79 ls (.int x :: st) G = if x < 0 then mc_ev X 129 82 ls st G else mc_ev X 129 93 ls st G) ∧
  (∀ (v0 v1 v2 v3 v4 v6 : Value) (x : Int32) (st : List Value) (G : mc_H), mc_ev X 129 82 [v0, v1, v2, v3, v4, .int x, v6] st G = mc_ev X 129 84 [v0, v1, v2, v3, v4, .int x, v6] (.int x :: st) G) ∧
  (∀ (x : Int32) (ls st : List Value) (G : mc_H), mc_ev X 129 84 ls (.int x :: st) G = if x = 0 then mc_ev X 129 93 ls st G else mc_ev X 129 87 ls st G) ∧
  (∀ (v0 v1 v2 v3 v4 v5 : Value) (x : Int32) (st : List Value) (G : mc_H), mc_ev X 129 87 [v0, v1, v2, v3, v4, v5, .int x] st G = mc_ev X 129 89 [v0, v1, v2, v3, v4, v5, .int x] (.int x :: st) G) ∧
  (∀ (x : Int32) (ls st : List Value) (G : mc_H), mc_ev X 129 89 ls (.int x :: st) G = mc_ev X 129 90 ls (.int (-x) :: st) G) ∧
  (∀ (ls st : List Value) (G : mc_H), mc_ev X 129 90 ls st G = mc_ev X 129 94 ls st G) ∧
  (∀ (ls st : List Value) (G : mc_H), mc_ev X 129 93 ls st G = mc_ev X 129 94 ls (.int 0 :: st) G) ∧
  (∀ (x y : Int32) (ls st : List Value) (G : mc_H), mc_ev X 129 94 ls (.int y :: .int x :: st) G = mc_ev X 129 95 ls (.int (x + y) :: st) G) ∧
  (∀ (v0 v1 v2 v3 v4 v5 v6 : Value) (x : Int32) (st : List Value) (G : mc_H), mc_ev X 129 95 [v0, v1, v2, v3, v4, v5, v6] (.int x :: st) G = mc_ev X 129 96 [v0, v1, .int x, v3, v4, v5, v6] st G) ∧
  (∀ (v0 v1 v2 v3 v5 v6 : Value) (x : Int32) (st : List Value) (G : mc_H), mc_ev X 129 96 [v0, v1, v2, v3, .int x, v5, v6] st G = mc_ev X 129 99 [v0, v1, v2, v3, .int (x + 1), v5, v6] st G) ∧
  (∀ (ls st : List Value) (G : mc_H), mc_ev X 129 99 ls st G = mc_ev X 129 10 ls st G) ∧
  (∀ (v0 v1 v3 v4 v5 v6 : Value) (x : Int32) (st : List Value) (G : mc_H), mc_ev X 129 102 [v0, v1, .int x, v3, v4, v5, v6] st G = mc_ev X 129 103 [v0, v1, .int x, v3, v4, v5, v6] (.int x :: st) G) ∧
  (∀ (v : Int32) (ls : List Value) (G : mc_H), mc_ev X 129 103 ls [.int v] G = some (some (.int v), G)) := ⟨fun ls st G => ev_iconst rfl rfl,
  fun v0 v1 v2 v3 v4 v5 v6 x st G => ev_istore_n (X := X) (k := 129) (pc := 1) (ls := [v0, v1, v2, v3, v4, v5, v6]) (st := st) (G := G) (j := 2) (x := x) rfl (Nat.le_of_ble_eq_true rfl),
  fun v1 v2 v3 v4 v5 v6 x st G => ev_aload_n rfl rfl,
  fun r ls st G hr hG => ev_virt (As := []) rfl rfl rfl rfl rfl rfl hr hG,
  fun v0 v1 v2 v3 v4 v5 v6 x st G => ev_istore_n (X := X) (k := 129) (pc := 6) (ls := [v0, v1, v2, v3, v4, v5, v6]) (st := st) (G := G) (j := 3) (x := x) rfl (Nat.le_of_ble_eq_true rfl),
  fun ls st G => ev_iconst rfl rfl,
  fun v0 v1 v2 v3 v4 v5 v6 x st G => ev_istore (X := X) (k := 129) (pc := 8) (ls := [v0, v1, v2, v3, v4, v5, v6]) (st := st) (G := G) (j := 4) (x := x) rfl (Nat.le_of_ble_eq_true rfl),
  fun v1 v2 v3 v4 v5 v6 x st G => ev_aload_n rfl rfl,
  fun r ls st G hr hG => ev_virt (As := []) rfl rfl rfl rfl rfl rfl hr hG,
  fun x y ls st G => ev_br rfl rfl,
  fun v0 v2 v3 v4 v5 v6 x st G => ev_iload_n rfl rfl,
  fun v1 v2 v3 v4 v5 v6 x st G => ev_aload_n rfl rfl,
  fun v0 v1 v2 v3 v5 v6 x st G => ev_iload rfl rfl,
  fun ls st G => ev_iconst rfl rfl,
  fun a0 a1 r ls st G hr hG => ev_virt (As := [.int a0, .int a1]) rfl rfl rfl rfl rfl rfl hr hG,
  fun v0 v1 v2 v4 v5 v6 x st G => ev_iload_n rfl rfl,
  fun a0 a1 a2 ls st G hr => ev_stat (As := [.int a0, .int a1, .int a2]) rfl (by decide) rfl rfl rfl rfl hr,
  fun v0 v2 v3 v4 v5 v6 x st G => ev_iload_n rfl rfl,
  fun v1 v2 v3 v4 v5 v6 x st G => ev_aload_n rfl rfl,
  fun v0 v1 v2 v3 v5 v6 x st G => ev_iload rfl rfl,
  fun ls st G => ev_iconst rfl rfl,
  fun a0 a1 r ls st G hr hG => ev_virt (As := [.int a0, .int a1]) rfl rfl rfl rfl rfl rfl hr hG,
  fun v0 v1 v2 v4 v5 v6 x st G => ev_iload_n rfl rfl,
  fun a0 a1 a2 ls st G hr => ev_stat (As := [.int a0, .int a1, .int a2]) rfl (by decide) rfl rfl rfl rfl hr,
  fun x y ls st G => ev_br rfl rfl,
  fun ls st G => ev_iconst rfl rfl,
  fun ls st G => ev_goto rfl rfl,
  fun ls st G => ev_iconst rfl rfl,
  fun v0 v1 v2 v3 v4 v5 v6 x st G => ev_istore (X := X) (k := 129) (pc := 51) (ls := [v0, v1, v2, v3, v4, v5, v6]) (st := st) (G := G) (j := 5) (x := x) rfl (Nat.le_of_ble_eq_true rfl),
  fun v1 v2 v3 v4 v5 v6 x st G => ev_aload_n rfl rfl,
  fun v0 v1 v2 v3 v5 v6 x st G => ev_iload rfl rfl,
  fun a0 r ls st G hr hG => ev_virt (As := [.int a0]) rfl rfl rfl rfl rfl rfl hr hG,
  fun v0 v1 v2 v3 v4 v5 v6 x st G => ev_istore (X := X) (k := 129) (pc := 59) (ls := [v0, v1, v2, v3, v4, v5, v6]) (st := st) (G := G) (j := 6) (x := x) rfl (Nat.le_of_ble_eq_true rfl),
  fun v0 v1 v3 v4 v5 v6 x st G => ev_iload_n rfl rfl,
  fun v0 v1 v2 v3 v4 v5 x st G => ev_iload rfl rfl,
  fun x ls st G => ev_br rfl rfl,
  fun v0 v1 v2 v3 v4 v6 x st G => ev_iload rfl rfl,
  fun x ls st G => ev_br rfl rfl,
  fun v0 v1 v2 v3 v4 v5 x st G => ev_iload rfl rfl,
  fun ls st G => ev_goto rfl rfl,
  fun v0 v1 v2 v3 v4 v5 x st G => ev_iload rfl rfl,
  fun x ls st G => ev_br rfl rfl,
  fun v0 v1 v2 v3 v4 v6 x st G => ev_iload rfl rfl,
  fun x ls st G => ev_br rfl rfl,
  fun v0 v1 v2 v3 v4 v5 x st G => ev_iload rfl rfl,
  fun x ls st G => ev_ineg rfl,
  fun ls st G => ev_goto rfl rfl,
  fun ls st G => ev_iconst rfl rfl,
  fun x y ls st G => ev_iadd rfl,
  fun v0 v1 v2 v3 v4 v5 v6 x st G => ev_istore_n (X := X) (k := 129) (pc := 95) (ls := [v0, v1, v2, v3, v4, v5, v6]) (st := st) (G := G) (j := 2) (x := x) rfl (Nat.le_of_ble_eq_true rfl),
  fun v0 v1 v2 v3 v5 v6 x st G => ev_iinc (X := X) (k := 129) (pc := 96) (ls := [v0, v1, v2, v3, .int x, v5, v6]) (st := st) (G := G) (j := 4) (n := 1) (x := x) (v := 1) rfl rfl rfl,
  fun ls st G => ev_goto rfl rfl,
  fun v0 v1 v3 v4 v5 v6 x st G => ev_iload_n rfl rfl,
  fun v ls G => ev_ireturn rfl rfl⟩
set_option maxRecDepth 100000 in
theorem h_130_4 {X : mc_X} : ∀ (v0 v1 : Value) (x : Int32) (st : List Value) (G : mc_H), mc_ev X 130 4 [v0, v1, .int x] st G = mc_ev X 130 5 [v0, v1, .int x] (.int x :: st) G := fun v0 v1 x st G => ev_iload_n rfl rfl
set_option maxRecDepth 100000 in
theorem e_130 {X : mc_X} : (∀ (ls st : List Value) (G : mc_H), mc_ev X 130 0 ls st G = mc_ev X 130 1 ls (.int 0 :: st) G) ∧
  (∀ (v0 v1 v2 : Value) (x : Int32) (st : List Value) (G : mc_H), mc_ev X 130 1 [v0, v1, v2] (.int x :: st) G = mc_ev X 130 2 [v0, .int x, v2] st G) ∧
  (∀ (ls st : List Value) (G : mc_H), mc_ev X 130 2 ls st G = mc_ev X 130 3 ls (.int 0 :: st) G) ∧
  (∀ (v0 v1 v2 : Value) (x : Int32) (st : List Value) (G : mc_H), mc_ev X 130 3 [v0, v1, v2] (.int x :: st) G = mc_ev X 130 4 [v0, v1, .int x] st G) ∧
  (∀ (v1 v2 : Value) (x : Nat) (st : List Value) (G : mc_H), mc_ev X 130 5 [.ref x, v1, v2] st G = mc_ev X 130 6 [.ref x, v1, v2] (.ref x :: st) G) ∧
  (∀ (r : Nat) (ls st : List Value) (G : mc_H), st.length ≤ 4 → mc_cls G r = some 8 → mc_ev X 130 6 ls (.ref r :: st) G = (mc_ev X 113 0 [.ref r] [] G).bind (fun q => mc_ev X 130 9 ls (q.1.toList ++ st) q.2)) ∧
  (∀ (x y : Int32) (ls st : List Value) (G : mc_H), mc_ev X 130 9 ls (.int y :: .int x :: st) G = if x < y then mc_ev X 130 12 ls st G else mc_ev X 130 28 ls st G) ∧
  (∀ (ls st : List Value) (G : mc_H), mc_ev X 130 12 ls st G = mc_ev X 130 13 ls (.int 2 :: st) G) ∧
  (∀ (v0 v2 : Value) (x : Int32) (st : List Value) (G : mc_H), mc_ev X 130 13 [v0, .int x, v2] st G = mc_ev X 130 14 [v0, .int x, v2] (.int x :: st) G) ∧
  (∀ (x y : Int32) (ls st : List Value) (G : mc_H), mc_ev X 130 14 ls (.int y :: .int x :: st) G = mc_ev X 130 15 ls (.int (x * y) :: st) G) ∧
  (∀ (v1 v2 : Value) (x : Nat) (st : List Value) (G : mc_H), mc_ev X 130 15 [.ref x, v1, v2] st G = mc_ev X 130 16 [.ref x, v1, v2] (.ref x :: st) G) ∧
  (∀ (v0 v1 : Value) (x : Int32) (st : List Value) (G : mc_H), mc_ev X 130 16 [v0, v1, .int x] st G = mc_ev X 130 17 [v0, v1, .int x] (.int x :: st) G) ∧
  (∀ (a0 : Int32) (r : Nat) (ls st : List Value) (G : mc_H), st.length ≤ 4 → mc_cls G r = some 8 → mc_ev X 130 17 ls (.int a0 :: .ref r :: st) G = (mc_ev X 121 0 [.ref r, .int a0] [] G).bind (fun q => mc_ev X 130 20 ls (q.1.toList ++ st) q.2)) ∧
  (∀ (x y : Int32) (ls st : List Value) (G : mc_H), mc_ev X 130 20 ls (.int y :: .int x :: st) G = mc_ev X 130 21 ls (.int (x + y) :: st) G) ∧
  (∀ (v0 v1 v2 : Value) (x : Int32) (st : List Value) (G : mc_H), mc_ev X 130 21 [v0, v1, v2] (.int x :: st) G = mc_ev X 130 22 [v0, .int x, v2] st G) ∧
  (∀ (v0 v1 : Value) (x : Int32) (st : List Value) (G : mc_H), mc_ev X 130 22 [v0, v1, .int x] st G = mc_ev X 130 25 [v0, v1, .int (x + 1)] st G) ∧
  (∀ (ls st : List Value) (G : mc_H), mc_ev X 130 25 ls st G = mc_ev X 130 4 ls st G) ∧
  (∀ (v0 v2 : Value) (x : Int32) (st : List Value) (G : mc_H), mc_ev X 130 28 [v0, .int x, v2] st G = mc_ev X 130 29 [v0, .int x, v2] (.int x :: st) G) ∧
  (∀ (v : Int32) (ls : List Value) (G : mc_H), mc_ev X 130 29 ls [.int v] G = some (some (.int v), G)) := ⟨fun ls st G => ev_iconst rfl rfl,
  fun v0 v1 v2 x st G => ev_istore_n (X := X) (k := 130) (pc := 1) (ls := [v0, v1, v2]) (st := st) (G := G) (j := 1) (x := x) rfl (Nat.le_of_ble_eq_true rfl),
  fun ls st G => ev_iconst rfl rfl,
  fun v0 v1 v2 x st G => ev_istore_n (X := X) (k := 130) (pc := 3) (ls := [v0, v1, v2]) (st := st) (G := G) (j := 2) (x := x) rfl (Nat.le_of_ble_eq_true rfl),
  fun v1 v2 x st G => ev_aload_n rfl rfl,
  fun r ls st G hr hG => ev_virt (As := []) rfl rfl rfl rfl rfl rfl hr hG,
  fun x y ls st G => ev_br rfl rfl,
  fun ls st G => ev_iconst rfl rfl,
  fun v0 v2 x st G => ev_iload_n rfl rfl,
  fun x y ls st G => ev_imul rfl,
  fun v1 v2 x st G => ev_aload_n rfl rfl,
  fun v0 v1 x st G => ev_iload_n rfl rfl,
  fun a0 r ls st G hr hG => ev_virt (As := [.int a0]) rfl rfl rfl rfl rfl rfl hr hG,
  fun x y ls st G => ev_iadd rfl,
  fun v0 v1 v2 x st G => ev_istore_n (X := X) (k := 130) (pc := 21) (ls := [v0, v1, v2]) (st := st) (G := G) (j := 1) (x := x) rfl (Nat.le_of_ble_eq_true rfl),
  fun v0 v1 x st G => ev_iinc (X := X) (k := 130) (pc := 22) (ls := [v0, v1, .int x]) (st := st) (G := G) (j := 2) (n := 1) (x := x) (v := 1) rfl rfl rfl,
  fun ls st G => ev_goto rfl rfl,
  fun v0 v2 x st G => ev_iload_n rfl rfl,
  fun v ls G => ev_ireturn rfl rfl⟩
set_option maxRecDepth 100000 in
theorem h_131_4 {X : mc_X} : ∀ (v0 v1 v2 : Value) (x : Int32) (st : List Value) (G : mc_H), mc_ev X 131 4 [v0, v1, v2, .int x] st G = mc_ev X 131 5 [v0, v1, v2, .int x] (.int x :: st) G := fun v0 v1 v2 x st G => ev_iload_n rfl rfl
set_option maxRecDepth 100000 in
theorem e_131 {X : mc_X} : (∀ (ls st : List Value) (G : mc_H), mc_ev X 131 0 ls st G = mc_ev X 131 1 ls (.int 1 :: st) G) ∧
  (∀ (v0 v1 v2 v3 : Value) (x : Int32) (st : List Value) (G : mc_H), mc_ev X 131 1 [v0, v1, v2, v3] (.int x :: st) G = mc_ev X 131 2 [v0, v1, .int x, v3] st G) ∧
  (∀ (ls st : List Value) (G : mc_H), mc_ev X 131 2 ls st G = mc_ev X 131 3 ls (.int 0 :: st) G) ∧
  (∀ (v0 v1 v2 v3 : Value) (x : Int32) (st : List Value) (G : mc_H), mc_ev X 131 3 [v0, v1, v2, v3] (.int x :: st) G = mc_ev X 131 4 [v0, v1, v2, .int x] st G) ∧
  (∀ (v1 v2 v3 : Value) (x : Nat) (st : List Value) (G : mc_H), mc_ev X 131 5 [.ref x, v1, v2, v3] st G = mc_ev X 131 6 [.ref x, v1, v2, v3] (.ref x :: st) G) ∧
  (∀ (r : Nat) (ls st : List Value) (G : mc_H), st.length ≤ 4 → mc_cls G r = some 8 → mc_ev X 131 6 ls (.ref r :: st) G = (mc_ev X 113 0 [.ref r] [] G).bind (fun q => mc_ev X 131 9 ls (q.1.toList ++ st) q.2)) ∧
  (∀ (x y : Int32) (ls st : List Value) (G : mc_H), mc_ev X 131 9 ls (.int y :: .int x :: st) G = if x < y then mc_ev X 131 12 ls st G else mc_ev X 131 52 ls st G) ∧
  (∀ (v0 v1 v3 : Value) (x : Int32) (st : List Value) (G : mc_H), mc_ev X 131 12 [v0, v1, .int x, v3] st G = mc_ev X 131 13 [v0, v1, .int x, v3] (.int x :: st) G) ∧
  (∀ (v1 v2 v3 : Value) (x : Nat) (st : List Value) (G : mc_H), mc_ev X 131 13 [.ref x, v1, v2, v3] st G = mc_ev X 131 14 [.ref x, v1, v2, v3] (.ref x :: st) G) ∧
  (∀ (v0 v1 v2 : Value) (x : Int32) (st : List Value) (G : mc_H), mc_ev X 131 14 [v0, v1, v2, .int x] st G = mc_ev X 131 15 [v0, v1, v2, .int x] (.int x :: st) G) ∧
  (∀ (a0 : Int32) (r : Nat) (ls st : List Value) (G : mc_H), st.length ≤ 4 → mc_cls G r = some 8 → mc_ev X 131 15 ls (.int a0 :: .ref r :: st) G = (mc_ev X 120 0 [.ref r, .int a0] [] G).bind (fun q => mc_ev X 131 18 ls (q.1.toList ++ st) q.2)) ∧
  (∀ (x : Int32) (ls st : List Value) (G : mc_H), mc_ev X 131 18 ls (.int x :: st) G = if x = 0 then mc_ev X 131 39 ls st G else mc_ev X 131 21 ls st G) ∧
  (∀ (v0 v2 v3 : Value) (x : Int32) (st : List Value) (G : mc_H), mc_ev X 131 21 [v0, .int x, v2, v3] st G = mc_ev X 131 22 [v0, .int x, v2, v3] (.int x :: st) G) ∧
  (∀ (v0 v1 v2 : Value) (x : Int32) (st : List Value) (G : mc_H), mc_ev X 131 22 [v0, v1, v2, .int x] st G = mc_ev X 131 23 [v0, v1, v2, .int x] (.int x :: st) G) ∧
  (∀ (v1 v2 v3 : Value) (x : Nat) (st : List Value) (G : mc_H), mc_ev X 131 23 [.ref x, v1, v2, v3] st G = mc_ev X 131 24 [.ref x, v1, v2, v3] (.ref x :: st) G) ∧
  (∀ (r : Nat) (ls st : List Value) (G : mc_H), st.length ≤ 4 → mc_cls G r = some 8 → mc_ev X 131 24 ls (.ref r :: st) G = (mc_ev X 113 0 [.ref r] [] G).bind (fun q => mc_ev X 131 27 ls (q.1.toList ++ st) q.2)) ∧
  (∀ (a0 : Int32) (a1 : Int32) (a2 : Int32) (ls st : List Value) (G : mc_H), st.length ≤ 4 → mc_ev X 131 27 ls (.int a2 :: .int a1 :: .int a0 :: st) G = (mc_ev X 128 0 [.int a0, .int a1, .int a2] [] G).bind (fun q => mc_ev X 131 30 ls (q.1.toList ++ st) q.2)) ∧
  (∀ (v1 v2 v3 : Value) (x : Nat) (st : List Value) (G : mc_H), mc_ev X 131 30 [.ref x, v1, v2, v3] st G = mc_ev X 131 31 [.ref x, v1, v2, v3] (.ref x :: st) G) ∧
  (∀ (r : Nat) (ls st : List Value) (G : mc_H), mc_ev X 131 31 ls (.ref r :: st) G = (mc_getf G r 8 6).bind (fun v => mc_ev X 131 34 ls (v :: st) G)) ∧
  (∀ (v0 v1 v2 : Value) (x : Int32) (st : List Value) (G : mc_H), mc_ev X 131 34 [v0, v1, v2, .int x] st G = mc_ev X 131 35 [v0, v1, v2, .int x] (.int x :: st) G) ∧
  (∀ (i : Int32) (r : Value) (ls st : List Value) (G : mc_H), mc_ev X 131 35 ls (.int i :: r :: st) G = (mc_getA X G 0 r i).bind (fun x => mc_ev X 131 36 ls (.int x :: st) G)) ∧
  (∀ (x y : Int32) (ls st : List Value) (G : mc_H), mc_ev X 131 36 ls (.int y :: .int x :: st) G = if x = y then mc_ev X 131 39 ls st G else mc_ev X 131 43 ls st G) ∧
  (∀ (ls st : List Value) (G : mc_H), mc_ev X 131 39 ls st G = mc_ev X 131 40 ls (.int 1 :: st) G) ∧
  (∀ (ls st : List Value) (G : mc_H), mc_ev X 131 40 ls st G = mc_ev X 131 44 ls st G) ∧
  (∀ (ls st : List Value) (G : mc_H), mc_ev X 131 43 ls st G = mc_ev X 131 44 ls (.int 0 :: st) G) ∧
  (∀ (x y : Int32) (ls st : List Value) (G : mc_H), mc_ev X 131 44 ls (.int y :: .int x :: st) G = mc_ev X 131 45 ls (.int (x &&& y) :: st) G) ∧
  (∀ (v0 v1 v2 v3 : Value) (x : Int32) (st : List Value) (G : mc_H), mc_ev X 131 45 [v0, v1, v2, v3] (.int x :: st) G = mc_ev X 131 46 [v0, v1, .int x, v3] st G) ∧
  (∀ (v0 v1 v2 : Value) (x : Int32) (st : List Value) (G : mc_H), mc_ev X 131 46 [v0, v1, v2, .int x] st G = mc_ev X 131 49 [v0, v1, v2, .int (x + 1)] st G) ∧
  (∀ (ls st : List Value) (G : mc_H), mc_ev X 131 49 ls st G = mc_ev X 131 4 ls st G) ∧
  (∀ (v0 v1 v3 : Value) (x : Int32) (st : List Value) (G : mc_H), mc_ev X 131 52 [v0, v1, .int x, v3] st G = mc_ev X 131 53 [v0, v1, .int x, v3] (.int x :: st) G) ∧
  (∀ (v : Int32) (ls : List Value) (G : mc_H), (v = 0 ∨ v = 1) → mc_ev X 131 53 ls [.int v] G = some (some (.int v), G)) := ⟨fun ls st G => ev_iconst rfl rfl,
  fun v0 v1 v2 v3 x st G => ev_istore_n (X := X) (k := 131) (pc := 1) (ls := [v0, v1, v2, v3]) (st := st) (G := G) (j := 2) (x := x) rfl (Nat.le_of_ble_eq_true rfl),
  fun ls st G => ev_iconst rfl rfl,
  fun v0 v1 v2 v3 x st G => ev_istore_n (X := X) (k := 131) (pc := 3) (ls := [v0, v1, v2, v3]) (st := st) (G := G) (j := 3) (x := x) rfl (Nat.le_of_ble_eq_true rfl),
  fun v1 v2 v3 x st G => ev_aload_n rfl rfl,
  fun r ls st G hr hG => ev_virt (As := []) rfl rfl rfl rfl rfl rfl hr hG,
  fun x y ls st G => ev_br rfl rfl,
  fun v0 v1 v3 x st G => ev_iload_n rfl rfl,
  fun v1 v2 v3 x st G => ev_aload_n rfl rfl,
  fun v0 v1 v2 x st G => ev_iload_n rfl rfl,
  fun a0 r ls st G hr hG => ev_virt (As := [.int a0]) rfl rfl rfl rfl rfl rfl hr hG,
  fun x ls st G => ev_br rfl rfl,
  fun v0 v2 v3 x st G => ev_iload_n rfl rfl,
  fun v0 v1 v2 x st G => ev_iload_n rfl rfl,
  fun v1 v2 v3 x st G => ev_aload_n rfl rfl,
  fun r ls st G hr hG => ev_virt (As := []) rfl rfl rfl rfl rfl rfl hr hG,
  fun a0 a1 a2 ls st G hr => ev_stat (As := [.int a0, .int a1, .int a2]) rfl (by decide) rfl rfl rfl rfl hr,
  fun v1 v2 v3 x st G => ev_aload_n rfl rfl,
  fun r ls st G => ev_getfield rfl,
  fun v0 v1 v2 x st G => ev_iload_n rfl rfl,
  fun i r ls st G => ev_iaload rfl,
  fun x y ls st G => ev_br rfl rfl,
  fun ls st G => ev_iconst rfl rfl,
  fun ls st G => ev_goto rfl rfl,
  fun ls st G => ev_iconst rfl rfl,
  fun x y ls st G => ev_iand rfl,
  fun v0 v1 v2 v3 x st G => ev_istore_n (X := X) (k := 131) (pc := 45) (ls := [v0, v1, v2, v3]) (st := st) (G := G) (j := 2) (x := x) rfl (Nat.le_of_ble_eq_true rfl),
  fun v0 v1 v2 x st G => ev_iinc (X := X) (k := 131) (pc := 46) (ls := [v0, v1, v2, .int x]) (st := st) (G := G) (j := 3) (n := 1) (x := x) (v := 1) rfl rfl rfl,
  fun ls st G => ev_goto rfl rfl,
  fun v0 v1 v3 x st G => ev_iload_n rfl rfl,
  fun v ls G hv => ev_zreturn rfl rfl hv⟩
set_option maxRecDepth 100000 in
theorem e_132 {X : mc_X} : (∀ (ls st : List Value) (G : mc_H), mc_ev X 132 0 ls st G = mc_ev X 132 1 ls (.int 1 :: st) G) ∧
  (∀ (x : Nat) (st : List Value) (G : mc_H), mc_ev X 132 1 [.ref x] st G = mc_ev X 132 2 [.ref x] (.ref x :: st) G) ∧
  (∀ (r : Nat) (ls st : List Value) (G : mc_H), st.length ≤ 4 → mc_cls G r = some 8 → mc_ev X 132 2 ls (.ref r :: st) G = (mc_ev X 113 0 [.ref r] [] G).bind (fun q => mc_ev X 132 5 ls (q.1.toList ++ st) q.2)) ∧
  (∀ (x y : Int32) (ls st : List Value) (G : mc_H), mc_ev X 132 5 ls (.int y :: .int x :: st) G = mc_ev X 132 6 ls (.int (x <<< (y &&& 31)) :: st) G) ∧
  (∀ (v : Int32) (ls : List Value) (G : mc_H), mc_ev X 132 6 ls [.int v] G = some (some (.int v), G)) := ⟨fun ls st G => ev_iconst rfl rfl,
  fun  x st G => ev_aload_n rfl rfl,
  fun r ls st G hr hG => ev_virt (As := []) rfl rfl rfl rfl rfl rfl hr hG,
  fun x y ls st G => ev_ishl rfl,
  fun v ls G => ev_ireturn rfl rfl⟩
set_option maxRecDepth 100000 in
theorem h_133_47 {X : mc_X} : ∀ (v0 v1 v2 : Value) (x : Int32) (st : List Value) (G : mc_H), mc_ev X 133 47 [v0, v1, v2, .int x] st G = mc_ev X 133 48 [v0, v1, v2, .int x] (.int x :: st) G := fun v0 v1 v2 x st G => ev_iload_n rfl rfl
set_option maxRecDepth 100000 in
theorem h_133_89 {X : mc_X} : ∀ (v0 v1 v2 : Value) (x : Int32) (st : List Value) (G : mc_H), mc_ev X 133 89 [v0, v1, v2, .int x] st G = mc_ev X 133 90 [v0, v1, v2, .int x] (.int x :: st) G := fun v0 v1 v2 x st G => ev_iload_n rfl rfl
set_option maxRecDepth 100000 in
theorem e_133 {X : mc_X} : (∀ (v1 v2 v3 : Value) (x : Nat) (st : List Value) (G : mc_H), mc_ev X 133 0 [.ref x, v1, v2, v3] st G = mc_ev X 133 1 [.ref x, v1, v2, v3] (.ref x :: st) G) ∧
  (∀ (ls st : List Value) (G : mc_H), mc_ev X 133 1 ls st G = mc_ev X 133 2 ls (.int 0 :: st) G) ∧
  (∀ (v : Value) (r : Nat) (ls st : List Value) (G : mc_H), mc_ev X 133 2 ls (v :: .ref r :: st) G = (mc_setf G r 8 0 v).bind (fun G' => mc_ev X 133 5 ls st G')) ∧
  (∀ (v0 v2 v3 : Value) (x : Int32) (st : List Value) (G : mc_H), mc_ev X 133 5 [v0, .int x, v2, v3] st G = mc_ev X 133 6 [v0, .int x, v2, v3] (.int x :: st) G) ∧
  (∀ (ls st : List Value) (G : mc_H), mc_ev X 133 6 ls st G = mc_ev X 133 7 ls (.int 1 :: st) G) ∧
  (∀ (ls st : List Value) (G : mc_H), mc_ev X 133 7 ls st G = mc_ev X 133 9 ls (.int 6 :: st) G) ∧
  (∀ (a0 : Int32) (a1 : Int32) (a2 : Int32) (ls st : List Value) (G : mc_H), st.length ≤ 4 → mc_ev X 133 9 ls (.int a2 :: .int a1 :: .int a0 :: st) G = (mc_ev X 112 0 [.int a0, .int a1, .int a2] [] G).bind (fun q => mc_ev X 133 12 ls (q.1.toList ++ st) q.2)) ∧
  (∀ (x : Int32) (ls st : List Value) (G : mc_H), mc_ev X 133 12 ls (.int x :: st) G = if x = 0 then mc_ev X 133 33 ls st G else mc_ev X 133 15 ls st G) ∧
  (∀ (v0 v1 v3 : Value) (x : Int32) (st : List Value) (G : mc_H), mc_ev X 133 15 [v0, v1, .int x, v3] st G = mc_ev X 133 16 [v0, v1, .int x, v3] (.int x :: st) G) ∧
  (∀ (ls st : List Value) (G : mc_H), mc_ev X 133 16 ls st G = mc_ev X 133 17 ls (.int 1 :: st) G) ∧
  (∀ (ls st : List Value) (G : mc_H), mc_ev X 133 17 ls st G = mc_ev X 133 19 ls (.int 6 :: st) G) ∧
  (∀ (a0 : Int32) (a1 : Int32) (a2 : Int32) (ls st : List Value) (G : mc_H), st.length ≤ 4 → mc_ev X 133 19 ls (.int a2 :: .int a1 :: .int a0 :: st) G = (mc_ev X 112 0 [.int a0, .int a1, .int a2] [] G).bind (fun q => mc_ev X 133 22 ls (q.1.toList ++ st) q.2)) ∧
  (∀ (x : Int32) (ls st : List Value) (G : mc_H), mc_ev X 133 22 ls (.int x :: st) G = if x = 0 then mc_ev X 133 33 ls st G else mc_ev X 133 25 ls st G) ∧
  (∀ (v0 v2 v3 : Value) (x : Int32) (st : List Value) (G : mc_H), mc_ev X 133 25 [v0, .int x, v2, v3] st G = mc_ev X 133 26 [v0, .int x, v2, v3] (.int x :: st) G) ∧
  (∀ (v0 v1 v3 : Value) (x : Int32) (st : List Value) (G : mc_H), mc_ev X 133 26 [v0, v1, .int x, v3] st G = mc_ev X 133 27 [v0, v1, .int x, v3] (.int x :: st) G) ∧
  (∀ (x y : Int32) (ls st : List Value) (G : mc_H), mc_ev X 133 27 ls (.int y :: .int x :: st) G = mc_ev X 133 28 ls (.int (x * y) :: st) G) ∧
  (∀ (ls st : List Value) (G : mc_H), mc_ev X 133 28 ls st G = mc_ev X 133 30 ls (.int 12 :: st) G) ∧
  (∀ (x y : Int32) (ls st : List Value) (G : mc_H), mc_ev X 133 30 ls (.int y :: .int x :: st) G = if y < x then mc_ev X 133 33 ls st G else mc_ev X 133 35 ls st G) ∧
  (∀ (ls st : List Value) (G : mc_H), mc_ev X 133 33 ls st G = mc_ev X 133 34 ls (.int (-1) :: st) G) ∧
  (∀ (v : Int32) (ls : List Value) (G : mc_H), mc_ev X 133 34 ls [.int v] G = some (some (.int v), G)) ∧
  (∀ (v1 v2 v3 : Value) (x : Nat) (st : List Value) (G : mc_H), mc_ev X 133 35 [.ref x, v1, v2, v3] st G = mc_ev X 133 36 [.ref x, v1, v2, v3] (.ref x :: st) G) ∧
  (∀ (v0 v2 v3 : Value) (x : Int32) (st : List Value) (G : mc_H), mc_ev X 133 36 [v0, .int x, v2, v3] st G = mc_ev X 133 37 [v0, .int x, v2, v3] (.int x :: st) G) ∧
  (∀ (v : Value) (r : Nat) (ls st : List Value) (G : mc_H), mc_ev X 133 37 ls (v :: .ref r :: st) G = (mc_setf G r 8 3 v).bind (fun G' => mc_ev X 133 40 ls st G')) ∧
  (∀ (v1 v2 v3 : Value) (x : Nat) (st : List Value) (G : mc_H), mc_ev X 133 40 [.ref x, v1, v2, v3] st G = mc_ev X 133 41 [.ref x, v1, v2, v3] (.ref x :: st) G) ∧
  (∀ (v0 v1 v3 : Value) (x : Int32) (st : List Value) (G : mc_H), mc_ev X 133 41 [v0, v1, .int x, v3] st G = mc_ev X 133 42 [v0, v1, .int x, v3] (.int x :: st) G) ∧
  (∀ (v : Value) (r : Nat) (ls st : List Value) (G : mc_H), mc_ev X 133 42 ls (v :: .ref r :: st) G = (mc_setf G r 8 4 v).bind (fun G' => mc_ev X 133 45 ls st G')) ∧
  (∀ (ls st : List Value) (G : mc_H), mc_ev X 133 45 ls st G = mc_ev X 133 46 ls (.int 0 :: st) G) ∧
  (∀ (v0 v1 v2 v3 : Value) (x : Int32) (st : List Value) (G : mc_H), mc_ev X 133 46 [v0, v1, v2, v3] (.int x :: st) G = mc_ev X 133 47 [v0, v1, v2, .int x] st G) ∧
  (∀ (ls st : List Value) (G : mc_H), mc_ev X 133 48 ls st G = mc_ev X 133 50 ls (.int 12 :: st) G) ∧
  (∀ (x y : Int32) (ls st : List Value) (G : mc_H), mc_ev X 133 50 ls (.int y :: .int x :: st) G = if x < y then mc_ev X 133 53 ls st G else mc_ev X 133 87 ls st G) ∧
  (∀ (v1 v2 v3 : Value) (x : Nat) (st : List Value) (G : mc_H), mc_ev X 133 53 [.ref x, v1, v2, v3] st G = mc_ev X 133 54 [.ref x, v1, v2, v3] (.ref x :: st) G) ∧
  (∀ (r : Nat) (ls st : List Value) (G : mc_H), mc_ev X 133 54 ls (.ref r :: st) G = (mc_getf G r 8 5).bind (fun v => mc_ev X 133 57 ls (v :: st) G)) ∧
  (∀ (v0 v1 v2 : Value) (x : Int32) (st : List Value) (G : mc_H), mc_ev X 133 57 [v0, v1, v2, .int x] st G = mc_ev X 133 58 [v0, v1, v2, .int x] (.int x :: st) G) ∧
  (∀ (ls st : List Value) (G : mc_H), mc_ev X 133 58 ls st G = mc_ev X 133 59 ls (.int 0 :: st) G) ∧
  (∀ (x i : Int32) (r : Nat) (ls st : List Value) (G : mc_H), mc_ev X 133 59 ls (.int x :: .int i :: .ref r :: st) G = (mc_setA G 0 r i x).bind (fun G' => mc_ev X 133 60 ls st G')) ∧
  (∀ (v1 v2 v3 : Value) (x : Nat) (st : List Value) (G : mc_H), mc_ev X 133 60 [.ref x, v1, v2, v3] st G = mc_ev X 133 61 [.ref x, v1, v2, v3] (.ref x :: st) G) ∧
  (∀ (r : Nat) (ls st : List Value) (G : mc_H), mc_ev X 133 61 ls (.ref r :: st) G = (mc_getf G r 8 6).bind (fun v => mc_ev X 133 64 ls (v :: st) G)) ∧
  (∀ (v0 v1 v2 : Value) (x : Int32) (st : List Value) (G : mc_H), mc_ev X 133 64 [v0, v1, v2, .int x] st G = mc_ev X 133 65 [v0, v1, v2, .int x] (.int x :: st) G) ∧
  (∀ (ls st : List Value) (G : mc_H), mc_ev X 133 65 ls st G = mc_ev X 133 66 ls (.int 0 :: st) G) ∧
  (∀ (x i : Int32) (r : Nat) (ls st : List Value) (G : mc_H), mc_ev X 133 66 ls (.int x :: .int i :: .ref r :: st) G = (mc_setA G 0 r i x).bind (fun G' => mc_ev X 133 67 ls st G')) ∧
  (∀ (v1 v2 v3 : Value) (x : Nat) (st : List Value) (G : mc_H), mc_ev X 133 67 [.ref x, v1, v2, v3] st G = mc_ev X 133 68 [.ref x, v1, v2, v3] (.ref x :: st) G) ∧
  (∀ (r : Nat) (ls st : List Value) (G : mc_H), mc_ev X 133 68 ls (.ref r :: st) G = (mc_getf G r 8 7).bind (fun v => mc_ev X 133 71 ls (v :: st) G)) ∧
  (∀ (v0 v1 v2 : Value) (x : Int32) (st : List Value) (G : mc_H), mc_ev X 133 71 [v0, v1, v2, .int x] st G = mc_ev X 133 72 [v0, v1, v2, .int x] (.int x :: st) G) ∧
  (∀ (ls st : List Value) (G : mc_H), mc_ev X 133 72 ls st G = mc_ev X 133 73 ls (.int 0 :: st) G) ∧
  (∀ (x i : Int32) (r : Nat) (ls st : List Value) (G : mc_H), mc_ev X 133 73 ls (.int x :: .int i :: .ref r :: st) G = (mc_setA G 0 r i x).bind (fun G' => mc_ev X 133 74 ls st G')) ∧
  (∀ (v1 v2 v3 : Value) (x : Nat) (st : List Value) (G : mc_H), mc_ev X 133 74 [.ref x, v1, v2, v3] st G = mc_ev X 133 75 [.ref x, v1, v2, v3] (.ref x :: st) G) ∧
  (∀ (r : Nat) (ls st : List Value) (G : mc_H), mc_ev X 133 75 ls (.ref r :: st) G = (mc_getf G r 8 8).bind (fun v => mc_ev X 133 78 ls (v :: st) G)) ∧
  (∀ (v0 v1 v2 : Value) (x : Int32) (st : List Value) (G : mc_H), mc_ev X 133 78 [v0, v1, v2, .int x] st G = mc_ev X 133 79 [v0, v1, v2, .int x] (.int x :: st) G) ∧
  (∀ (ls st : List Value) (G : mc_H), mc_ev X 133 79 ls st G = mc_ev X 133 80 ls (.int 0 :: st) G) ∧
  (∀ (x i : Int32) (r : Nat) (ls st : List Value) (G : mc_H), mc_ev X 133 80 ls (.int x :: .int i :: .ref r :: st) G = (mc_setA G 1 r i (vp_nar .boolean x)).bind (fun G' => mc_ev X 133 81 ls st G')) ∧
  (∀ (v0 v1 v2 : Value) (x : Int32) (st : List Value) (G : mc_H), mc_ev X 133 81 [v0, v1, v2, .int x] st G = mc_ev X 133 84 [v0, v1, v2, .int (x + 1)] st G) ∧
  (∀ (ls st : List Value) (G : mc_H), mc_ev X 133 84 ls st G = mc_ev X 133 47 ls st G) ∧
  (∀ (ls st : List Value) (G : mc_H), mc_ev X 133 87 ls st G = mc_ev X 133 88 ls (.int 0 :: st) G) ∧
  (∀ (v0 v1 v2 v3 : Value) (x : Int32) (st : List Value) (G : mc_H), mc_ev X 133 88 [v0, v1, v2, v3] (.int x :: st) G = mc_ev X 133 89 [v0, v1, v2, .int x] st G) ∧
  (∀ (ls st : List Value) (G : mc_H), mc_ev X 133 90 ls st G = mc_ev X 133 92 ls (.int 24 :: st) G) ∧
  (∀ (x y : Int32) (ls st : List Value) (G : mc_H), mc_ev X 133 92 ls (.int y :: .int x :: st) G = if x < y then mc_ev X 133 95 ls st G else mc_ev X 133 108 ls st G) ∧
  (∀ (v1 v2 v3 : Value) (x : Nat) (st : List Value) (G : mc_H), mc_ev X 133 95 [.ref x, v1, v2, v3] st G = mc_ev X 133 96 [.ref x, v1, v2, v3] (.ref x :: st) G) ∧
  (∀ (r : Nat) (ls st : List Value) (G : mc_H), mc_ev X 133 96 ls (.ref r :: st) G = (mc_getf G r 8 9).bind (fun v => mc_ev X 133 99 ls (v :: st) G)) ∧
  (∀ (v0 v1 v2 : Value) (x : Int32) (st : List Value) (G : mc_H), mc_ev X 133 99 [v0, v1, v2, .int x] st G = mc_ev X 133 100 [v0, v1, v2, .int x] (.int x :: st) G) ∧
  (∀ (ls st : List Value) (G : mc_H), mc_ev X 133 100 ls st G = mc_ev X 133 101 ls (.int 0 :: st) G) ∧
  (∀ (x i : Int32) (r : Nat) (ls st : List Value) (G : mc_H), mc_ev X 133 101 ls (.int x :: .int i :: .ref r :: st) G = (mc_setA G 0 r i x).bind (fun G' => mc_ev X 133 102 ls st G')) ∧
  (∀ (v0 v1 v2 : Value) (x : Int32) (st : List Value) (G : mc_H), mc_ev X 133 102 [v0, v1, v2, .int x] st G = mc_ev X 133 105 [v0, v1, v2, .int (x + 1)] st G) ∧
  (∀ (ls st : List Value) (G : mc_H), mc_ev X 133 105 ls st G = mc_ev X 133 89 ls st G) ∧
  (∀ (v1 v2 v3 : Value) (x : Nat) (st : List Value) (G : mc_H), mc_ev X 133 108 [.ref x, v1, v2, v3] st G = mc_ev X 133 109 [.ref x, v1, v2, v3] (.ref x :: st) G) ∧
  (∀ (ls st : List Value) (G : mc_H), mc_ev X 133 109 ls st G = mc_ev X 133 110 ls (.int 0 :: st) G) ∧
  (∀ (v : Value) (r : Nat) (ls st : List Value) (G : mc_H), mc_ev X 133 110 ls (v :: .ref r :: st) G = (mc_setf G r 8 11 v).bind (fun G' => mc_ev X 133 113 ls st G')) ∧
  (∀ (v1 v2 v3 : Value) (x : Nat) (st : List Value) (G : mc_H), mc_ev X 133 113 [.ref x, v1, v2, v3] st G = mc_ev X 133 114 [.ref x, v1, v2, v3] (.ref x :: st) G) ∧
  (∀ (r : Nat) (ls st : List Value) (G : mc_H), st.length ≤ 4 → mc_cls G r = some 8 → mc_ev X 133 114 ls (.ref r :: st) G = (mc_ev X 115 0 [.ref r] [] G).bind (fun q => mc_ev X 133 117 ls (q.1.toList ++ st) q.2)) ∧
  (∀ (v : Int32) (ls : List Value) (G : mc_H), mc_ev X 133 117 ls [.int v] G = some (some (.int v), G)) := ⟨fun v1 v2 v3 x st G => ev_aload_n rfl rfl,
  fun ls st G => ev_iconst rfl rfl,
  fun v r ls st G => ev_putfield rfl,
  fun v0 v2 v3 x st G => ev_iload_n rfl rfl,
  fun ls st G => ev_iconst rfl rfl,
  fun ls st G => ev_bipush rfl rfl,
  fun a0 a1 a2 ls st G hr => ev_stat (As := [.int a0, .int a1, .int a2]) rfl (by decide) rfl rfl rfl rfl hr,
  fun x ls st G => ev_br rfl rfl,
  fun v0 v1 v3 x st G => ev_iload_n rfl rfl,
  fun ls st G => ev_iconst rfl rfl,
  fun ls st G => ev_bipush rfl rfl,
  fun a0 a1 a2 ls st G hr => ev_stat (As := [.int a0, .int a1, .int a2]) rfl (by decide) rfl rfl rfl rfl hr,
  fun x ls st G => ev_br rfl rfl,
  fun v0 v2 v3 x st G => ev_iload_n rfl rfl,
  fun v0 v1 v3 x st G => ev_iload_n rfl rfl,
  fun x y ls st G => ev_imul rfl,
  fun ls st G => ev_bipush rfl rfl,
  fun x y ls st G => ev_br rfl rfl,
  fun ls st G => ev_iconst rfl rfl,
  fun v ls G => ev_ireturn rfl rfl,
  fun v1 v2 v3 x st G => ev_aload_n rfl rfl,
  fun v0 v2 v3 x st G => ev_iload_n rfl rfl,
  fun v r ls st G => ev_putfield rfl,
  fun v1 v2 v3 x st G => ev_aload_n rfl rfl,
  fun v0 v1 v3 x st G => ev_iload_n rfl rfl,
  fun v r ls st G => ev_putfield rfl,
  fun ls st G => ev_iconst rfl rfl,
  fun v0 v1 v2 v3 x st G => ev_istore_n (X := X) (k := 133) (pc := 46) (ls := [v0, v1, v2, v3]) (st := st) (G := G) (j := 3) (x := x) rfl (Nat.le_of_ble_eq_true rfl),
  fun ls st G => ev_bipush rfl rfl,
  fun x y ls st G => ev_br rfl rfl,
  fun v1 v2 v3 x st G => ev_aload_n rfl rfl,
  fun r ls st G => ev_getfield rfl,
  fun v0 v1 v2 x st G => ev_iload_n rfl rfl,
  fun ls st G => ev_iconst rfl rfl,
  fun x i r ls st G => ev_iastore rfl,
  fun v1 v2 v3 x st G => ev_aload_n rfl rfl,
  fun r ls st G => ev_getfield rfl,
  fun v0 v1 v2 x st G => ev_iload_n rfl rfl,
  fun ls st G => ev_iconst rfl rfl,
  fun x i r ls st G => ev_iastore rfl,
  fun v1 v2 v3 x st G => ev_aload_n rfl rfl,
  fun r ls st G => ev_getfield rfl,
  fun v0 v1 v2 x st G => ev_iload_n rfl rfl,
  fun ls st G => ev_iconst rfl rfl,
  fun x i r ls st G => ev_iastore rfl,
  fun v1 v2 v3 x st G => ev_aload_n rfl rfl,
  fun r ls st G => ev_getfield rfl,
  fun v0 v1 v2 x st G => ev_iload_n rfl rfl,
  fun ls st G => ev_iconst rfl rfl,
  fun x i r ls st G => ev_bastore rfl,
  fun v0 v1 v2 x st G => ev_iinc (X := X) (k := 133) (pc := 81) (ls := [v0, v1, v2, .int x]) (st := st) (G := G) (j := 3) (n := 1) (x := x) (v := 1) rfl rfl rfl,
  fun ls st G => ev_goto rfl rfl,
  fun ls st G => ev_iconst rfl rfl,
  fun v0 v1 v2 v3 x st G => ev_istore_n (X := X) (k := 133) (pc := 88) (ls := [v0, v1, v2, v3]) (st := st) (G := G) (j := 3) (x := x) rfl (Nat.le_of_ble_eq_true rfl),
  fun ls st G => ev_bipush rfl rfl,
  fun x y ls st G => ev_br rfl rfl,
  fun v1 v2 v3 x st G => ev_aload_n rfl rfl,
  fun r ls st G => ev_getfield rfl,
  fun v0 v1 v2 x st G => ev_iload_n rfl rfl,
  fun ls st G => ev_iconst rfl rfl,
  fun x i r ls st G => ev_iastore rfl,
  fun v0 v1 v2 x st G => ev_iinc (X := X) (k := 133) (pc := 102) (ls := [v0, v1, v2, .int x]) (st := st) (G := G) (j := 3) (n := 1) (x := x) (v := 1) rfl rfl rfl,
  fun ls st G => ev_goto rfl rfl,
  fun v1 v2 v3 x st G => ev_aload_n rfl rfl,
  fun ls st G => ev_iconst rfl rfl,
  fun v r ls st G => ev_putfield rfl,
  fun v1 v2 v3 x st G => ev_aload_n rfl rfl,
  fun r ls st G hr hG => ev_virt (As := []) rfl rfl rfl rfl rfl rfl hr hG,
  fun v ls G => ev_ireturn rfl rfl⟩
set_option maxRecDepth 100000 in
theorem e_134 {X : mc_X} : (∀ (v1 v2 v3 v4 v5 : Value) (x : Nat) (st : List Value) (G : mc_H), mc_ev X 134 0 [.ref x, v1, v2, v3, v4, v5] st G = mc_ev X 134 1 [.ref x, v1, v2, v3, v4, v5] (.ref x :: st) G) ∧
  (∀ (ls st : List Value) (G : mc_H), mc_ev X 134 1 ls st G = mc_ev X 134 2 ls (.int 0 :: st) G) ∧
  (∀ (v : Value) (r : Nat) (ls st : List Value) (G : mc_H), mc_ev X 134 2 ls (v :: .ref r :: st) G = (mc_setf G r 8 0 v).bind (fun G' => mc_ev X 134 5 ls st G')) ∧
  (∀ (v1 v2 v3 v4 v5 : Value) (x : Nat) (st : List Value) (G : mc_H), mc_ev X 134 5 [.ref x, v1, v2, v3, v4, v5] st G = mc_ev X 134 6 [.ref x, v1, v2, v3, v4, v5] (.ref x :: st) G) ∧
  (∀ (v0 v2 v3 v4 v5 : Value) (x : Int32) (st : List Value) (G : mc_H), mc_ev X 134 6 [v0, .int x, v2, v3, v4, v5] st G = mc_ev X 134 7 [v0, .int x, v2, v3, v4, v5] (.int x :: st) G) ∧
  (∀ (a0 : Int32) (r : Nat) (ls st : List Value) (G : mc_H), st.length ≤ 4 → mc_cls G r = some 8 → mc_ev X 134 7 ls (.int a0 :: .ref r :: st) G = (mc_ev X 117 0 [.ref r, .int a0] [] G).bind (fun q => mc_ev X 134 10 ls (q.1.toList ++ st) q.2)) ∧
  (∀ (x : Int32) (ls st : List Value) (G : mc_H), mc_ev X 134 10 ls (.int x :: st) G = if x = 0 then mc_ev X 134 22 ls st G else mc_ev X 134 13 ls st G) ∧
  (∀ (v0 v1 v3 v4 v5 : Value) (x : Int32) (st : List Value) (G : mc_H), mc_ev X 134 13 [v0, v1, .int x, v3, v4, v5] st G = mc_ev X 134 14 [v0, v1, .int x, v3, v4, v5] (.int x :: st) G) ∧
  (∀ (ls st : List Value) (G : mc_H), mc_ev X 134 14 ls st G = mc_ev X 134 15 ls (.int 0 :: st) G) ∧
  (∀ (ls st : List Value) (G : mc_H), mc_ev X 134 15 ls st G = mc_ev X 134 16 ls (.int 4 :: st) G) ∧
  (∀ (a0 : Int32) (a1 : Int32) (a2 : Int32) (ls st : List Value) (G : mc_H), st.length ≤ 4 → mc_ev X 134 16 ls (.int a2 :: .int a1 :: .int a0 :: st) G = (mc_ev X 112 0 [.int a0, .int a1, .int a2] [] G).bind (fun q => mc_ev X 134 19 ls (q.1.toList ++ st) q.2)) ∧
  (∀ (x : Int32) (ls st : List Value) (G : mc_H), mc_ev X 134 19 ls (.int x :: st) G = if x = 0 then mc_ev X 134 22 ls st G else mc_ev X 134 24 ls st G) ∧
  (∀ (ls st : List Value) (G : mc_H), mc_ev X 134 22 ls st G = mc_ev X 134 23 ls (.int (-1) :: st) G) ∧
  (∀ (v : Int32) (ls : List Value) (G : mc_H), mc_ev X 134 23 ls [.int v] G = some (some (.int v), G)) ∧
  (∀ (v0 v2 v3 v4 v5 : Value) (x : Int32) (st : List Value) (G : mc_H), mc_ev X 134 24 [v0, .int x, v2, v3, v4, v5] st G = mc_ev X 134 25 [v0, .int x, v2, v3, v4, v5] (.int x :: st) G) ∧
  (∀ (v1 v2 v3 v4 v5 : Value) (x : Nat) (st : List Value) (G : mc_H), mc_ev X 134 25 [.ref x, v1, v2, v3, v4, v5] st G = mc_ev X 134 26 [.ref x, v1, v2, v3, v4, v5] (.ref x :: st) G) ∧
  (∀ (r : Nat) (ls st : List Value) (G : mc_H), mc_ev X 134 26 ls (.ref r :: st) G = (mc_getf G r 8 4).bind (fun v => mc_ev X 134 29 ls (v :: st) G)) ∧
  (∀ (x y : Int32) (ls st : List Value) (G : mc_H), mc_ev X 134 29 ls (.int y :: .int x :: st) G = if y = 0 then none else mc_ev X 134 30 ls (.int (x / y) :: st) G) ∧
  (∀ (v0 v1 v2 v3 v4 v5 : Value) (x : Int32) (st : List Value) (G : mc_H), mc_ev X 134 30 [v0, v1, v2, v3, v4, v5] (.int x :: st) G = mc_ev X 134 31 [v0, v1, v2, .int x, v4, v5] st G) ∧
  (∀ (v0 v2 v3 v4 v5 : Value) (x : Int32) (st : List Value) (G : mc_H), mc_ev X 134 31 [v0, .int x, v2, v3, v4, v5] st G = mc_ev X 134 32 [v0, .int x, v2, v3, v4, v5] (.int x :: st) G) ∧
  (∀ (v1 v2 v3 v4 v5 : Value) (x : Nat) (st : List Value) (G : mc_H), mc_ev X 134 32 [.ref x, v1, v2, v3, v4, v5] st G = mc_ev X 134 33 [.ref x, v1, v2, v3, v4, v5] (.ref x :: st) G) ∧
  (∀ (r : Nat) (ls st : List Value) (G : mc_H), mc_ev X 134 33 ls (.ref r :: st) G = (mc_getf G r 8 4).bind (fun v => mc_ev X 134 36 ls (v :: st) G)) ∧
  (∀ (x y : Int32) (ls st : List Value) (G : mc_H), mc_ev X 134 36 ls (.int y :: .int x :: st) G = if y = 0 then none else mc_ev X 134 37 ls (.int (x - x / y * y) :: st) G) ∧
  (∀ (v0 v1 v2 v3 v4 v5 : Value) (x : Int32) (st : List Value) (G : mc_H), mc_ev X 134 37 [v0, v1, v2, v3, v4, v5] (.int x :: st) G = mc_ev X 134 39 [v0, v1, v2, v3, .int x, v5] st G) ∧
  (∀ (v0 v1 v3 v4 v5 : Value) (x : Int32) (st : List Value) (G : mc_H), mc_ev X 134 39 [v0, v1, .int x, v3, v4, v5] st G = mc_ev X 134 40 [v0, v1, .int x, v3, v4, v5] (.int x :: st) G) ∧
  (∀ (ls st : List Value) (G : mc_H), mc_ev X 134 40 ls st G = mc_ev X 134 41 ls (.int 4 :: st) G) ∧
  (∀ (x y : Int32) (ls st : List Value) (G : mc_H), mc_ev X 134 41 ls (.int y :: .int x :: st) G = if x = y then mc_ev X 134 44 ls st G else mc_ev X 134 76 ls st G) ∧
  (∀ (v0 v1 v2 v4 v5 : Value) (x : Int32) (st : List Value) (G : mc_H), mc_ev X 134 44 [v0, v1, v2, .int x, v4, v5] st G = mc_ev X 134 45 [v0, v1, v2, .int x, v4, v5] (.int x :: st) G) ∧
  (∀ (x : Int32) (ls st : List Value) (G : mc_H), mc_ev X 134 45 ls (.int x :: st) G = if 0 < x then mc_ev X 134 48 ls st G else mc_ev X 134 76 ls st G) ∧
  (∀ (v0 v1 v2 v4 v5 : Value) (x : Int32) (st : List Value) (G : mc_H), mc_ev X 134 48 [v0, v1, v2, .int x, v4, v5] st G = mc_ev X 134 49 [v0, v1, v2, .int x, v4, v5] (.int x :: st) G) ∧
  (∀ (v1 v2 v3 v4 v5 : Value) (x : Nat) (st : List Value) (G : mc_H), mc_ev X 134 49 [.ref x, v1, v2, v3, v4, v5] st G = mc_ev X 134 50 [.ref x, v1, v2, v3, v4, v5] (.ref x :: st) G) ∧
  (∀ (r : Nat) (ls st : List Value) (G : mc_H), mc_ev X 134 50 ls (.ref r :: st) G = (mc_getf G r 8 3).bind (fun v => mc_ev X 134 53 ls (v :: st) G)) ∧
  (∀ (ls st : List Value) (G : mc_H), mc_ev X 134 53 ls st G = mc_ev X 134 54 ls (.int 1 :: st) G) ∧
  (∀ (x y : Int32) (ls st : List Value) (G : mc_H), mc_ev X 134 54 ls (.int y :: .int x :: st) G = mc_ev X 134 55 ls (.int (x - y) :: st) G) ∧
  (∀ (x y : Int32) (ls st : List Value) (G : mc_H), mc_ev X 134 55 ls (.int y :: .int x :: st) G = if x < y then mc_ev X 134 58 ls st G else mc_ev X 134 76 ls st G) ∧
  (∀ (v0 v1 v2 v3 v5 : Value) (x : Int32) (st : List Value) (G : mc_H), mc_ev X 134 58 [v0, v1, v2, v3, .int x, v5] st G = mc_ev X 134 60 [v0, v1, v2, v3, .int x, v5] (.int x :: st) G) ∧
  (∀ (x : Int32) (ls st : List Value) (G : mc_H), mc_ev X 134 60 ls (.int x :: st) G = if 0 < x then mc_ev X 134 63 ls st G else mc_ev X 134 76 ls st G) ∧
  (∀ (v0 v1 v2 v3 v5 : Value) (x : Int32) (st : List Value) (G : mc_H), mc_ev X 134 63 [v0, v1, v2, v3, .int x, v5] st G = mc_ev X 134 65 [v0, v1, v2, v3, .int x, v5] (.int x :: st) G) ∧
  (∀ (v1 v2 v3 v4 v5 : Value) (x : Nat) (st : List Value) (G : mc_H), mc_ev X 134 65 [.ref x, v1, v2, v3, v4, v5] st G = mc_ev X 134 66 [.ref x, v1, v2, v3, v4, v5] (.ref x :: st) G) ∧
  (∀ (r : Nat) (ls st : List Value) (G : mc_H), mc_ev X 134 66 ls (.ref r :: st) G = (mc_getf G r 8 4).bind (fun v => mc_ev X 134 69 ls (v :: st) G)) ∧
  (∀ (ls st : List Value) (G : mc_H), mc_ev X 134 69 ls st G = mc_ev X 134 70 ls (.int 1 :: st) G) ∧
  (∀ (x y : Int32) (ls st : List Value) (G : mc_H), mc_ev X 134 70 ls (.int y :: .int x :: st) G = mc_ev X 134 71 ls (.int (x - y) :: st) G) ∧
  (∀ (x y : Int32) (ls st : List Value) (G : mc_H), mc_ev X 134 71 ls (.int y :: .int x :: st) G = if x < y then mc_ev X 134 74 ls st G else mc_ev X 134 76 ls st G) ∧
  (∀ (ls st : List Value) (G : mc_H), mc_ev X 134 74 ls st G = mc_ev X 134 75 ls (.int (-1) :: st) G) ∧
  (∀ (v : Int32) (ls : List Value) (G : mc_H), mc_ev X 134 75 ls [.int v] G = some (some (.int v), G)) ∧
  (∀ (v1 v2 v3 v4 v5 : Value) (x : Nat) (st : List Value) (G : mc_H), mc_ev X 134 76 [.ref x, v1, v2, v3, v4, v5] st G = mc_ev X 134 77 [.ref x, v1, v2, v3, v4, v5] (.ref x :: st) G) ∧
  (∀ (r : Nat) (ls st : List Value) (G : mc_H), st.length ≤ 4 → mc_cls G r = some 8 → mc_ev X 134 77 ls (.ref r :: st) G = (mc_ev X 119 0 [.ref r, .null, .null] [] G).bind (fun q => mc_ev X 134 80 ls (q.1.toList ++ st) q.2)) ∧
  (∀ (v1 v2 v3 v4 v5 : Value) (x : Nat) (st : List Value) (G : mc_H), mc_ev X 134 80 [.ref x, v1, v2, v3, v4, v5] st G = mc_ev X 134 81 [.ref x, v1, v2, v3, v4, v5] (.ref x :: st) G) ∧
  (∀ (r : Nat) (ls st : List Value) (G : mc_H), mc_ev X 134 81 ls (.ref r :: st) G = (mc_getf G r 8 7).bind (fun v => mc_ev X 134 84 ls (v :: st) G)) ∧
  (∀ (v0 v2 v3 v4 v5 : Value) (x : Int32) (st : List Value) (G : mc_H), mc_ev X 134 84 [v0, .int x, v2, v3, v4, v5] st G = mc_ev X 134 85 [v0, .int x, v2, v3, v4, v5] (.int x :: st) G) ∧
  (∀ (i : Int32) (r : Value) (ls st : List Value) (G : mc_H), mc_ev X 134 85 ls (.int i :: r :: st) G = (mc_getA X G 0 r i).bind (fun x => mc_ev X 134 86 ls (.int x :: st) G)) ∧
  (∀ (v0 v1 v2 v3 v4 v5 : Value) (x : Int32) (st : List Value) (G : mc_H), mc_ev X 134 86 [v0, v1, v2, v3, v4, v5] (.int x :: st) G = mc_ev X 134 88 [v0, v1, v2, v3, v4, .int x] st G) ∧
  (∀ (v1 v2 v3 v4 v5 : Value) (x : Nat) (st : List Value) (G : mc_H), mc_ev X 134 88 [.ref x, v1, v2, v3, v4, v5] st G = mc_ev X 134 89 [.ref x, v1, v2, v3, v4, v5] (.ref x :: st) G) ∧
  (∀ (r : Nat) (ls st : List Value) (G : mc_H), mc_ev X 134 89 ls (.ref r :: st) G = (mc_getf G r 8 7).bind (fun v => mc_ev X 134 92 ls (v :: st) G)) ∧
  (∀ (v0 v2 v3 v4 v5 : Value) (x : Int32) (st : List Value) (G : mc_H), mc_ev X 134 92 [v0, .int x, v2, v3, v4, v5] st G = mc_ev X 134 93 [v0, .int x, v2, v3, v4, v5] (.int x :: st) G) ∧
  (∀ (v0 v1 v3 v4 v5 : Value) (x : Int32) (st : List Value) (G : mc_H), mc_ev X 134 93 [v0, v1, .int x, v3, v4, v5] st G = mc_ev X 134 94 [v0, v1, .int x, v3, v4, v5] (.int x :: st) G) ∧
  (∀ (x i : Int32) (r : Nat) (ls st : List Value) (G : mc_H), mc_ev X 134 94 ls (.int x :: .int i :: .ref r :: st) G = (mc_setA G 0 r i x).bind (fun G' => mc_ev X 134 95 ls st G')) ∧
  (∀ (v1 v2 v3 v4 v5 : Value) (x : Nat) (st : List Value) (G : mc_H), mc_ev X 134 95 [.ref x, v1, v2, v3, v4, v5] st G = mc_ev X 134 96 [.ref x, v1, v2, v3, v4, v5] (.ref x :: st) G) ∧
  (∀ (r : Nat) (ls st : List Value) (G : mc_H), mc_ev X 134 96 ls (.ref r :: st) G = (mc_getf G r 8 8).bind (fun v => mc_ev X 134 99 ls (v :: st) G)) ∧
  (∀ (v0 v2 v3 v4 v5 : Value) (x : Int32) (st : List Value) (G : mc_H), mc_ev X 134 99 [v0, .int x, v2, v3, v4, v5] st G = mc_ev X 134 100 [v0, .int x, v2, v3, v4, v5] (.int x :: st) G) ∧
  (∀ (ls st : List Value) (G : mc_H), mc_ev X 134 100 ls st G = mc_ev X 134 101 ls (.int 0 :: st) G) ∧
  (∀ (x i : Int32) (r : Nat) (ls st : List Value) (G : mc_H), mc_ev X 134 101 ls (.int x :: .int i :: .ref r :: st) G = (mc_setA G 1 r i (vp_nar .boolean x)).bind (fun G' => mc_ev X 134 102 ls st G')) ∧
  (∀ (v0 v1 v2 v3 v4 : Value) (x : Int32) (st : List Value) (G : mc_H), mc_ev X 134 102 [v0, v1, v2, v3, v4, .int x] st G = mc_ev X 134 104 [v0, v1, v2, v3, v4, .int x] (.int x :: st) G) ∧
  (∀ (v : Int32) (ls : List Value) (G : mc_H), mc_ev X 134 104 ls [.int v] G = some (some (.int v), G)) := ⟨fun v1 v2 v3 v4 v5 x st G => ev_aload_n rfl rfl,
  fun ls st G => ev_iconst rfl rfl,
  fun v r ls st G => ev_putfield rfl,
  fun v1 v2 v3 v4 v5 x st G => ev_aload_n rfl rfl,
  fun v0 v2 v3 v4 v5 x st G => ev_iload_n rfl rfl,
  fun a0 r ls st G hr hG => ev_virt (As := [.int a0]) rfl rfl rfl rfl rfl rfl hr hG,
  fun x ls st G => ev_br rfl rfl,
  fun v0 v1 v3 v4 v5 x st G => ev_iload_n rfl rfl,
  fun ls st G => ev_iconst rfl rfl,
  fun ls st G => ev_iconst rfl rfl,
  fun a0 a1 a2 ls st G hr => ev_stat (As := [.int a0, .int a1, .int a2]) rfl (by decide) rfl rfl rfl rfl hr,
  fun x ls st G => ev_br rfl rfl,
  fun ls st G => ev_iconst rfl rfl,
  fun v ls G => ev_ireturn rfl rfl,
  fun v0 v2 v3 v4 v5 x st G => ev_iload_n rfl rfl,
  fun v1 v2 v3 v4 v5 x st G => ev_aload_n rfl rfl,
  fun r ls st G => ev_getfield rfl,
  fun x y ls st G => ev_idiv rfl,
  fun v0 v1 v2 v3 v4 v5 x st G => ev_istore_n (X := X) (k := 134) (pc := 30) (ls := [v0, v1, v2, v3, v4, v5]) (st := st) (G := G) (j := 3) (x := x) rfl (Nat.le_of_ble_eq_true rfl),
  fun v0 v2 v3 v4 v5 x st G => ev_iload_n rfl rfl,
  fun v1 v2 v3 v4 v5 x st G => ev_aload_n rfl rfl,
  fun r ls st G => ev_getfield rfl,
  fun x y ls st G => ev_irem rfl,
  fun v0 v1 v2 v3 v4 v5 x st G => ev_istore (X := X) (k := 134) (pc := 37) (ls := [v0, v1, v2, v3, v4, v5]) (st := st) (G := G) (j := 4) (x := x) rfl (Nat.le_of_ble_eq_true rfl),
  fun v0 v1 v3 v4 v5 x st G => ev_iload_n rfl rfl,
  fun ls st G => ev_iconst rfl rfl,
  fun x y ls st G => ev_br rfl rfl,
  fun v0 v1 v2 v4 v5 x st G => ev_iload_n rfl rfl,
  fun x ls st G => ev_br rfl rfl,
  fun v0 v1 v2 v4 v5 x st G => ev_iload_n rfl rfl,
  fun v1 v2 v3 v4 v5 x st G => ev_aload_n rfl rfl,
  fun r ls st G => ev_getfield rfl,
  fun ls st G => ev_iconst rfl rfl,
  fun x y ls st G => ev_isub rfl,
  fun x y ls st G => ev_br rfl rfl,
  fun v0 v1 v2 v3 v5 x st G => ev_iload rfl rfl,
  fun x ls st G => ev_br rfl rfl,
  fun v0 v1 v2 v3 v5 x st G => ev_iload rfl rfl,
  fun v1 v2 v3 v4 v5 x st G => ev_aload_n rfl rfl,
  fun r ls st G => ev_getfield rfl,
  fun ls st G => ev_iconst rfl rfl,
  fun x y ls st G => ev_isub rfl,
  fun x y ls st G => ev_br rfl rfl,
  fun ls st G => ev_iconst rfl rfl,
  fun v ls G => ev_ireturn rfl rfl,
  fun v1 v2 v3 v4 v5 x st G => ev_aload_n rfl rfl,
  fun r ls st G hr hG => ev_virt (As := []) rfl rfl rfl rfl rfl rfl hr hG,
  fun v1 v2 v3 v4 v5 x st G => ev_aload_n rfl rfl,
  fun r ls st G => ev_getfield rfl,
  fun v0 v2 v3 v4 v5 x st G => ev_iload_n rfl rfl,
  fun i r ls st G => ev_iaload rfl,
  fun v0 v1 v2 v3 v4 v5 x st G => ev_istore (X := X) (k := 134) (pc := 86) (ls := [v0, v1, v2, v3, v4, v5]) (st := st) (G := G) (j := 5) (x := x) rfl (Nat.le_of_ble_eq_true rfl),
  fun v1 v2 v3 v4 v5 x st G => ev_aload_n rfl rfl,
  fun r ls st G => ev_getfield rfl,
  fun v0 v2 v3 v4 v5 x st G => ev_iload_n rfl rfl,
  fun v0 v1 v3 v4 v5 x st G => ev_iload_n rfl rfl,
  fun x i r ls st G => ev_iastore rfl,
  fun v1 v2 v3 v4 v5 x st G => ev_aload_n rfl rfl,
  fun r ls st G => ev_getfield rfl,
  fun v0 v2 v3 v4 v5 x st G => ev_iload_n rfl rfl,
  fun ls st G => ev_iconst rfl rfl,
  fun x i r ls st G => ev_bastore rfl,
  fun v0 v1 v2 v3 v4 x st G => ev_iload rfl rfl,
  fun v ls G => ev_ireturn rfl rfl⟩
set_option maxRecDepth 100000 in
theorem e_135 {X : mc_X} : (∀ (v1 v2 v3 : Value) (x : Nat) (st : List Value) (G : mc_H), mc_ev X 135 0 [.ref x, v1, v2, v3] st G = mc_ev X 135 1 [.ref x, v1, v2, v3] (.ref x :: st) G) ∧
  (∀ (ls st : List Value) (G : mc_H), mc_ev X 135 1 ls st G = mc_ev X 135 2 ls (.int 0 :: st) G) ∧
  (∀ (v : Value) (r : Nat) (ls st : List Value) (G : mc_H), mc_ev X 135 2 ls (v :: .ref r :: st) G = (mc_setf G r 8 0 v).bind (fun G' => mc_ev X 135 5 ls st G')) ∧
  (∀ (v1 v2 v3 : Value) (x : Nat) (st : List Value) (G : mc_H), mc_ev X 135 5 [.ref x, v1, v2, v3] st G = mc_ev X 135 6 [.ref x, v1, v2, v3] (.ref x :: st) G) ∧
  (∀ (v0 v2 v3 : Value) (x : Int32) (st : List Value) (G : mc_H), mc_ev X 135 6 [v0, .int x, v2, v3] st G = mc_ev X 135 7 [v0, .int x, v2, v3] (.int x :: st) G) ∧
  (∀ (a0 : Int32) (r : Nat) (ls st : List Value) (G : mc_H), st.length ≤ 4 → mc_cls G r = some 8 → mc_ev X 135 7 ls (.int a0 :: .ref r :: st) G = (mc_ev X 117 0 [.ref r, .int a0] [] G).bind (fun q => mc_ev X 135 10 ls (q.1.toList ++ st) q.2)) ∧
  (∀ (x : Int32) (ls st : List Value) (G : mc_H), mc_ev X 135 10 ls (.int x :: st) G = if x = 0 then mc_ev X 135 22 ls st G else mc_ev X 135 13 ls st G) ∧
  (∀ (v0 v1 v3 : Value) (x : Int32) (st : List Value) (G : mc_H), mc_ev X 135 13 [v0, v1, .int x, v3] st G = mc_ev X 135 14 [v0, v1, .int x, v3] (.int x :: st) G) ∧
  (∀ (ls st : List Value) (G : mc_H), mc_ev X 135 14 ls st G = mc_ev X 135 15 ls (.int 0 :: st) G) ∧
  (∀ (ls st : List Value) (G : mc_H), mc_ev X 135 15 ls st G = mc_ev X 135 16 ls (.int 1 :: st) G) ∧
  (∀ (a0 : Int32) (a1 : Int32) (a2 : Int32) (ls st : List Value) (G : mc_H), st.length ≤ 4 → mc_ev X 135 16 ls (.int a2 :: .int a1 :: .int a0 :: st) G = (mc_ev X 112 0 [.int a0, .int a1, .int a2] [] G).bind (fun q => mc_ev X 135 19 ls (q.1.toList ++ st) q.2)) ∧
  (∀ (x : Int32) (ls st : List Value) (G : mc_H), mc_ev X 135 19 ls (.int x :: st) G = if x = 0 then mc_ev X 135 22 ls st G else mc_ev X 135 24 ls st G) ∧
  (∀ (ls st : List Value) (G : mc_H), mc_ev X 135 22 ls st G = mc_ev X 135 23 ls (.int (-1) :: st) G) ∧
  (∀ (v : Int32) (ls : List Value) (G : mc_H), mc_ev X 135 23 ls [.int v] G = some (some (.int v), G)) ∧
  (∀ (v1 v2 v3 : Value) (x : Nat) (st : List Value) (G : mc_H), mc_ev X 135 24 [.ref x, v1, v2, v3] st G = mc_ev X 135 25 [.ref x, v1, v2, v3] (.ref x :: st) G) ∧
  (∀ (r : Nat) (ls st : List Value) (G : mc_H), st.length ≤ 4 → mc_cls G r = some 8 → mc_ev X 135 25 ls (.ref r :: st) G = (mc_ev X 119 0 [.ref r, .null, .null] [] G).bind (fun q => mc_ev X 135 28 ls (q.1.toList ++ st) q.2)) ∧
  (∀ (v1 v2 v3 : Value) (x : Nat) (st : List Value) (G : mc_H), mc_ev X 135 28 [.ref x, v1, v2, v3] st G = mc_ev X 135 29 [.ref x, v1, v2, v3] (.ref x :: st) G) ∧
  (∀ (r : Nat) (ls st : List Value) (G : mc_H), mc_ev X 135 29 ls (.ref r :: st) G = (mc_getf G r 8 6).bind (fun v => mc_ev X 135 32 ls (v :: st) G)) ∧
  (∀ (v0 v2 v3 : Value) (x : Int32) (st : List Value) (G : mc_H), mc_ev X 135 32 [v0, .int x, v2, v3] st G = mc_ev X 135 33 [v0, .int x, v2, v3] (.int x :: st) G) ∧
  (∀ (i : Int32) (r : Value) (ls st : List Value) (G : mc_H), mc_ev X 135 33 ls (.int i :: r :: st) G = (mc_getA X G 0 r i).bind (fun x => mc_ev X 135 34 ls (.int x :: st) G)) ∧
  (∀ (v0 v1 v2 v3 : Value) (x : Int32) (st : List Value) (G : mc_H), mc_ev X 135 34 [v0, v1, v2, v3] (.int x :: st) G = mc_ev X 135 35 [v0, v1, v2, .int x] st G) ∧
  (∀ (v1 v2 v3 : Value) (x : Nat) (st : List Value) (G : mc_H), mc_ev X 135 35 [.ref x, v1, v2, v3] st G = mc_ev X 135 36 [.ref x, v1, v2, v3] (.ref x :: st) G) ∧
  (∀ (r : Nat) (ls st : List Value) (G : mc_H), mc_ev X 135 36 ls (.ref r :: st) G = (mc_getf G r 8 6).bind (fun v => mc_ev X 135 39 ls (v :: st) G)) ∧
  (∀ (v0 v2 v3 : Value) (x : Int32) (st : List Value) (G : mc_H), mc_ev X 135 39 [v0, .int x, v2, v3] st G = mc_ev X 135 40 [v0, .int x, v2, v3] (.int x :: st) G) ∧
  (∀ (v0 v1 v3 : Value) (x : Int32) (st : List Value) (G : mc_H), mc_ev X 135 40 [v0, v1, .int x, v3] st G = mc_ev X 135 41 [v0, v1, .int x, v3] (.int x :: st) G) ∧
  (∀ (x i : Int32) (r : Nat) (ls st : List Value) (G : mc_H), mc_ev X 135 41 ls (.int x :: .int i :: .ref r :: st) G = (mc_setA G 0 r i x).bind (fun G' => mc_ev X 135 42 ls st G')) ∧
  (∀ (v0 v1 v2 : Value) (x : Int32) (st : List Value) (G : mc_H), mc_ev X 135 42 [v0, v1, v2, .int x] st G = mc_ev X 135 43 [v0, v1, v2, .int x] (.int x :: st) G) ∧
  (∀ (v : Int32) (ls : List Value) (G : mc_H), mc_ev X 135 43 ls [.int v] G = some (some (.int v), G)) := ⟨fun v1 v2 v3 x st G => ev_aload_n rfl rfl,
  fun ls st G => ev_iconst rfl rfl,
  fun v r ls st G => ev_putfield rfl,
  fun v1 v2 v3 x st G => ev_aload_n rfl rfl,
  fun v0 v2 v3 x st G => ev_iload_n rfl rfl,
  fun a0 r ls st G hr hG => ev_virt (As := [.int a0]) rfl rfl rfl rfl rfl rfl hr hG,
  fun x ls st G => ev_br rfl rfl,
  fun v0 v1 v3 x st G => ev_iload_n rfl rfl,
  fun ls st G => ev_iconst rfl rfl,
  fun ls st G => ev_iconst rfl rfl,
  fun a0 a1 a2 ls st G hr => ev_stat (As := [.int a0, .int a1, .int a2]) rfl (by decide) rfl rfl rfl rfl hr,
  fun x ls st G => ev_br rfl rfl,
  fun ls st G => ev_iconst rfl rfl,
  fun v ls G => ev_ireturn rfl rfl,
  fun v1 v2 v3 x st G => ev_aload_n rfl rfl,
  fun r ls st G hr hG => ev_virt (As := []) rfl rfl rfl rfl rfl rfl hr hG,
  fun v1 v2 v3 x st G => ev_aload_n rfl rfl,
  fun r ls st G => ev_getfield rfl,
  fun v0 v2 v3 x st G => ev_iload_n rfl rfl,
  fun i r ls st G => ev_iaload rfl,
  fun v0 v1 v2 v3 x st G => ev_istore_n (X := X) (k := 135) (pc := 34) (ls := [v0, v1, v2, v3]) (st := st) (G := G) (j := 3) (x := x) rfl (Nat.le_of_ble_eq_true rfl),
  fun v1 v2 v3 x st G => ev_aload_n rfl rfl,
  fun r ls st G => ev_getfield rfl,
  fun v0 v2 v3 x st G => ev_iload_n rfl rfl,
  fun v0 v1 v3 x st G => ev_iload_n rfl rfl,
  fun x i r ls st G => ev_iastore rfl,
  fun v0 v1 v2 x st G => ev_iload_n rfl rfl,
  fun v ls G => ev_ireturn rfl rfl⟩
set_option maxRecDepth 100000 in
theorem e_136 {X : mc_X} : (∀ (v1 v2 v3 : Value) (x : Nat) (st : List Value) (G : mc_H), mc_ev X 136 0 [.ref x, v1, v2, v3] st G = mc_ev X 136 1 [.ref x, v1, v2, v3] (.ref x :: st) G) ∧
  (∀ (ls st : List Value) (G : mc_H), mc_ev X 136 1 ls st G = mc_ev X 136 2 ls (.int 0 :: st) G) ∧
  (∀ (v : Value) (r : Nat) (ls st : List Value) (G : mc_H), mc_ev X 136 2 ls (v :: .ref r :: st) G = (mc_setf G r 8 0 v).bind (fun G' => mc_ev X 136 5 ls st G')) ∧
  (∀ (v1 v2 v3 : Value) (x : Nat) (st : List Value) (G : mc_H), mc_ev X 136 5 [.ref x, v1, v2, v3] st G = mc_ev X 136 6 [.ref x, v1, v2, v3] (.ref x :: st) G) ∧
  (∀ (v0 v2 v3 : Value) (x : Int32) (st : List Value) (G : mc_H), mc_ev X 136 6 [v0, .int x, v2, v3] st G = mc_ev X 136 7 [v0, .int x, v2, v3] (.int x :: st) G) ∧
  (∀ (a0 : Int32) (r : Nat) (ls st : List Value) (G : mc_H), st.length ≤ 4 → mc_cls G r = some 8 → mc_ev X 136 7 ls (.int a0 :: .ref r :: st) G = (mc_ev X 117 0 [.ref r, .int a0] [] G).bind (fun q => mc_ev X 136 10 ls (q.1.toList ++ st) q.2)) ∧
  (∀ (x : Int32) (ls st : List Value) (G : mc_H), mc_ev X 136 10 ls (.int x :: st) G = if x = 0 then mc_ev X 136 23 ls st G else mc_ev X 136 13 ls st G) ∧
  (∀ (v1 v2 v3 : Value) (x : Nat) (st : List Value) (G : mc_H), mc_ev X 136 13 [.ref x, v1, v2, v3] st G = mc_ev X 136 14 [.ref x, v1, v2, v3] (.ref x :: st) G) ∧
  (∀ (r : Nat) (ls st : List Value) (G : mc_H), mc_ev X 136 14 ls (.ref r :: st) G = (mc_getf G r 8 7).bind (fun v => mc_ev X 136 17 ls (v :: st) G)) ∧
  (∀ (v0 v2 v3 : Value) (x : Int32) (st : List Value) (G : mc_H), mc_ev X 136 17 [v0, .int x, v2, v3] st G = mc_ev X 136 18 [v0, .int x, v2, v3] (.int x :: st) G) ∧
  (∀ (i : Int32) (r : Value) (ls st : List Value) (G : mc_H), mc_ev X 136 18 ls (.int i :: r :: st) G = (mc_getA X G 0 r i).bind (fun x => mc_ev X 136 19 ls (.int x :: st) G)) ∧
  (∀ (ls st : List Value) (G : mc_H), mc_ev X 136 19 ls st G = mc_ev X 136 20 ls (.int 4 :: st) G) ∧
  (∀ (x y : Int32) (ls st : List Value) (G : mc_H), mc_ev X 136 20 ls (.int y :: .int x :: st) G = if x = y then mc_ev X 136 25 ls st G else mc_ev X 136 23 ls st G) ∧
  (∀ (ls st : List Value) (G : mc_H), mc_ev X 136 23 ls st G = mc_ev X 136 24 ls (.int (-1) :: st) G) ∧
  (∀ (v : Int32) (ls : List Value) (G : mc_H), mc_ev X 136 24 ls [.int v] G = some (some (.int v), G)) ∧
  (∀ (v1 v2 v3 : Value) (x : Nat) (st : List Value) (G : mc_H), mc_ev X 136 25 [.ref x, v1, v2, v3] st G = mc_ev X 136 26 [.ref x, v1, v2, v3] (.ref x :: st) G) ∧
  (∀ (r : Nat) (ls st : List Value) (G : mc_H), st.length ≤ 4 → mc_cls G r = some 8 → mc_ev X 136 26 ls (.ref r :: st) G = (mc_ev X 119 0 [.ref r, .null, .null] [] G).bind (fun q => mc_ev X 136 29 ls (q.1.toList ++ st) q.2)) ∧
  (∀ (v1 v2 v3 : Value) (x : Nat) (st : List Value) (G : mc_H), mc_ev X 136 29 [.ref x, v1, v2, v3] st G = mc_ev X 136 30 [.ref x, v1, v2, v3] (.ref x :: st) G) ∧
  (∀ (r : Nat) (ls st : List Value) (G : mc_H), mc_ev X 136 30 ls (.ref r :: st) G = (mc_getf G r 8 8).bind (fun v => mc_ev X 136 33 ls (v :: st) G)) ∧
  (∀ (v0 v2 v3 : Value) (x : Int32) (st : List Value) (G : mc_H), mc_ev X 136 33 [v0, .int x, v2, v3] st G = mc_ev X 136 34 [v0, .int x, v2, v3] (.int x :: st) G) ∧
  (∀ (i : Int32) (r : Value) (ls st : List Value) (G : mc_H), mc_ev X 136 34 ls (.int i :: r :: st) G = (mc_getA X G 1 r i).bind (fun x => mc_ev X 136 35 ls (.int x :: st) G)) ∧
  (∀ (x : Int32) (ls st : List Value) (G : mc_H), mc_ev X 136 35 ls (.int x :: st) G = if x = 0 then mc_ev X 136 42 ls st G else mc_ev X 136 38 ls st G) ∧
  (∀ (ls st : List Value) (G : mc_H), mc_ev X 136 38 ls st G = mc_ev X 136 39 ls (.int 1 :: st) G) ∧
  (∀ (ls st : List Value) (G : mc_H), mc_ev X 136 39 ls st G = mc_ev X 136 43 ls st G) ∧
  (∀ (ls st : List Value) (G : mc_H), mc_ev X 136 42 ls st G = mc_ev X 136 43 ls (.int 0 :: st) G) ∧
  (∀ (v0 v1 v2 v3 : Value) (x : Int32) (st : List Value) (G : mc_H), mc_ev X 136 43 [v0, v1, v2, v3] (.int x :: st) G = mc_ev X 136 44 [v0, v1, v2, .int x] st G) ∧
  (∀ (v1 v2 v3 : Value) (x : Nat) (st : List Value) (G : mc_H), mc_ev X 136 44 [.ref x, v1, v2, v3] st G = mc_ev X 136 45 [.ref x, v1, v2, v3] (.ref x :: st) G) ∧
  (∀ (r : Nat) (ls st : List Value) (G : mc_H), mc_ev X 136 45 ls (.ref r :: st) G = (mc_getf G r 8 8).bind (fun v => mc_ev X 136 48 ls (v :: st) G)) ∧
  (∀ (v0 v2 v3 : Value) (x : Int32) (st : List Value) (G : mc_H), mc_ev X 136 48 [v0, .int x, v2, v3] st G = mc_ev X 136 49 [v0, .int x, v2, v3] (.int x :: st) G) ∧
  (∀ (v0 v1 v3 : Value) (x : Int32) (st : List Value) (G : mc_H), mc_ev X 136 49 [v0, v1, .int x, v3] st G = mc_ev X 136 50 [v0, v1, .int x, v3] (.int x :: st) G) ∧
  (∀ (x i : Int32) (r : Nat) (ls st : List Value) (G : mc_H), mc_ev X 136 50 ls (.int x :: .int i :: .ref r :: st) G = (mc_setA G 1 r i (vp_nar .boolean x)).bind (fun G' => mc_ev X 136 51 ls st G')) ∧
  (∀ (v0 v1 v2 : Value) (x : Int32) (st : List Value) (G : mc_H), mc_ev X 136 51 [v0, v1, v2, .int x] st G = mc_ev X 136 52 [v0, v1, v2, .int x] (.int x :: st) G) ∧
  (∀ (v : Int32) (ls : List Value) (G : mc_H), mc_ev X 136 52 ls [.int v] G = some (some (.int v), G)) := ⟨fun v1 v2 v3 x st G => ev_aload_n rfl rfl,
  fun ls st G => ev_iconst rfl rfl,
  fun v r ls st G => ev_putfield rfl,
  fun v1 v2 v3 x st G => ev_aload_n rfl rfl,
  fun v0 v2 v3 x st G => ev_iload_n rfl rfl,
  fun a0 r ls st G hr hG => ev_virt (As := [.int a0]) rfl rfl rfl rfl rfl rfl hr hG,
  fun x ls st G => ev_br rfl rfl,
  fun v1 v2 v3 x st G => ev_aload_n rfl rfl,
  fun r ls st G => ev_getfield rfl,
  fun v0 v2 v3 x st G => ev_iload_n rfl rfl,
  fun i r ls st G => ev_iaload rfl,
  fun ls st G => ev_iconst rfl rfl,
  fun x y ls st G => ev_br rfl rfl,
  fun ls st G => ev_iconst rfl rfl,
  fun v ls G => ev_ireturn rfl rfl,
  fun v1 v2 v3 x st G => ev_aload_n rfl rfl,
  fun r ls st G hr hG => ev_virt (As := []) rfl rfl rfl rfl rfl rfl hr hG,
  fun v1 v2 v3 x st G => ev_aload_n rfl rfl,
  fun r ls st G => ev_getfield rfl,
  fun v0 v2 v3 x st G => ev_iload_n rfl rfl,
  fun i r ls st G => ev_baload rfl,
  fun x ls st G => ev_br rfl rfl,
  fun ls st G => ev_iconst rfl rfl,
  fun ls st G => ev_goto rfl rfl,
  fun ls st G => ev_iconst rfl rfl,
  fun v0 v1 v2 v3 x st G => ev_istore_n (X := X) (k := 136) (pc := 43) (ls := [v0, v1, v2, v3]) (st := st) (G := G) (j := 3) (x := x) rfl (Nat.le_of_ble_eq_true rfl),
  fun v1 v2 v3 x st G => ev_aload_n rfl rfl,
  fun r ls st G => ev_getfield rfl,
  fun v0 v2 v3 x st G => ev_iload_n rfl rfl,
  fun v0 v1 v3 x st G => ev_iload_n rfl rfl,
  fun x i r ls st G => ev_bastore rfl,
  fun v0 v1 v2 x st G => ev_iload_n rfl rfl,
  fun v ls G => ev_ireturn rfl rfl⟩
set_option maxRecDepth 100000 in
theorem e_137 {X : mc_X} : (∀ (v1 v2 : Value) (x : Nat) (st : List Value) (G : mc_H), mc_ev X 137 0 [.ref x, v1, v2] st G = mc_ev X 137 1 [.ref x, v1, v2] (.ref x :: st) G) ∧
  (∀ (ls st : List Value) (G : mc_H), mc_ev X 137 1 ls st G = mc_ev X 137 2 ls (.int 0 :: st) G) ∧
  (∀ (v : Value) (r : Nat) (ls st : List Value) (G : mc_H), mc_ev X 137 2 ls (v :: .ref r :: st) G = (mc_setf G r 8 0 v).bind (fun G' => mc_ev X 137 5 ls st G')) ∧
  (∀ (v1 v2 : Value) (x : Nat) (st : List Value) (G : mc_H), mc_ev X 137 5 [.ref x, v1, v2] st G = mc_ev X 137 6 [.ref x, v1, v2] (.ref x :: st) G) ∧
  (∀ (v0 v2 : Value) (x : Int32) (st : List Value) (G : mc_H), mc_ev X 137 6 [v0, .int x, v2] st G = mc_ev X 137 7 [v0, .int x, v2] (.int x :: st) G) ∧
  (∀ (a0 : Int32) (r : Nat) (ls st : List Value) (G : mc_H), st.length ≤ 4 → mc_cls G r = some 8 → mc_ev X 137 7 ls (.int a0 :: .ref r :: st) G = (mc_ev X 117 0 [.ref r, .int a0] [] G).bind (fun q => mc_ev X 137 10 ls (q.1.toList ++ st) q.2)) ∧
  (∀ (x : Int32) (ls st : List Value) (G : mc_H), mc_ev X 137 10 ls (.int x :: st) G = if x = 0 then mc_ev X 137 13 ls st G else mc_ev X 137 16 ls st G) ∧
  (∀ (ls st : List Value) (G : mc_H), mc_ev X 137 13 ls st G = mc_ev X 137 15 ls (.int (-1000000) :: st) G) ∧
  (∀ (v : Int32) (ls : List Value) (G : mc_H), mc_ev X 137 15 ls [.int v] G = some (some (.int v), G)) ∧
  (∀ (v1 v2 : Value) (x : Nat) (st : List Value) (G : mc_H), mc_ev X 137 16 [.ref x, v1, v2] st G = mc_ev X 137 17 [.ref x, v1, v2] (.ref x :: st) G) ∧
  (∀ (r : Nat) (ls st : List Value) (G : mc_H), st.length ≤ 4 → mc_cls G r = some 8 → mc_ev X 137 17 ls (.ref r :: st) G = (mc_ev X 119 0 [.ref r, .null, .null] [] G).bind (fun q => mc_ev X 137 20 ls (q.1.toList ++ st) q.2)) ∧
  (∀ (v1 v2 : Value) (x : Nat) (st : List Value) (G : mc_H), mc_ev X 137 20 [.ref x, v1, v2] st G = mc_ev X 137 21 [.ref x, v1, v2] (.ref x :: st) G) ∧
  (∀ (v1 v2 : Value) (x : Nat) (st : List Value) (G : mc_H), mc_ev X 137 21 [.ref x, v1, v2] st G = mc_ev X 137 22 [.ref x, v1, v2] (.ref x :: st) G) ∧
  (∀ (r : Nat) (ls st : List Value) (G : mc_H), st.length ≤ 4 → mc_cls G r = some 8 → mc_ev X 137 22 ls (.ref r :: st) G = (mc_ev X 130 0 [.ref r, .null, .null] [] G).bind (fun q => mc_ev X 137 25 ls (q.1.toList ++ st) q.2)) ∧
  (∀ (a0 : Int32) (r : Nat) (ls st : List Value) (G : mc_H), st.length ≤ 4 → mc_cls G r = some 8 → mc_ev X 137 25 ls (.int a0 :: .ref r :: st) G = (mc_ev X 129 0 [.ref r, .int a0, .null, .null, .null, .null, .null] [] G).bind (fun q => mc_ev X 137 28 ls (q.1.toList ++ st) q.2)) ∧
  (∀ (v0 v1 v2 : Value) (x : Int32) (st : List Value) (G : mc_H), mc_ev X 137 28 [v0, v1, v2] (.int x :: st) G = mc_ev X 137 29 [v0, v1, .int x] st G) ∧
  (∀ (v1 v2 : Value) (x : Nat) (st : List Value) (G : mc_H), mc_ev X 137 29 [.ref x, v1, v2] st G = mc_ev X 137 30 [.ref x, v1, v2] (.ref x :: st) G) ∧
  (∀ (r : Nat) (ls st : List Value) (G : mc_H), mc_ev X 137 30 ls (.ref r :: st) G = (mc_getf G r 8 5).bind (fun v => mc_ev X 137 33 ls (v :: st) G)) ∧
  (∀ (v0 v2 : Value) (x : Int32) (st : List Value) (G : mc_H), mc_ev X 137 33 [v0, .int x, v2] st G = mc_ev X 137 34 [v0, .int x, v2] (.int x :: st) G) ∧
  (∀ (ls st : List Value) (G : mc_H), mc_ev X 137 34 ls st G = mc_ev X 137 35 ls (.int 1 :: st) G) ∧
  (∀ (v1 v2 : Value) (x : Nat) (st : List Value) (G : mc_H), mc_ev X 137 35 [.ref x, v1, v2] st G = mc_ev X 137 36 [.ref x, v1, v2] (.ref x :: st) G) ∧
  (∀ (r : Nat) (ls st : List Value) (G : mc_H), mc_ev X 137 36 ls (.ref r :: st) G = (mc_getf G r 8 5).bind (fun v => mc_ev X 137 39 ls (v :: st) G)) ∧
  (∀ (v0 v2 : Value) (x : Int32) (st : List Value) (G : mc_H), mc_ev X 137 39 [v0, .int x, v2] st G = mc_ev X 137 40 [v0, .int x, v2] (.int x :: st) G) ∧
  (∀ (i : Int32) (r : Value) (ls st : List Value) (G : mc_H), mc_ev X 137 40 ls (.int i :: r :: st) G = (mc_getA X G 0 r i).bind (fun x => mc_ev X 137 41 ls (.int x :: st) G)) ∧
  (∀ (x y : Int32) (ls st : List Value) (G : mc_H), mc_ev X 137 41 ls (.int y :: .int x :: st) G = mc_ev X 137 42 ls (.int (x - y) :: st) G) ∧
  (∀ (x i : Int32) (r : Nat) (ls st : List Value) (G : mc_H), mc_ev X 137 42 ls (.int x :: .int i :: .ref r :: st) G = (mc_setA G 0 r i x).bind (fun G' => mc_ev X 137 43 ls st G')) ∧
  (∀ (v1 v2 : Value) (x : Nat) (st : List Value) (G : mc_H), mc_ev X 137 43 [.ref x, v1, v2] st G = mc_ev X 137 44 [.ref x, v1, v2] (.ref x :: st) G) ∧
  (∀ (v1 v2 : Value) (x : Nat) (st : List Value) (G : mc_H), mc_ev X 137 44 [.ref x, v1, v2] st G = mc_ev X 137 45 [.ref x, v1, v2] (.ref x :: st) G) ∧
  (∀ (r : Nat) (ls st : List Value) (G : mc_H), st.length ≤ 4 → mc_cls G r = some 8 → mc_ev X 137 45 ls (.ref r :: st) G = (mc_ev X 130 0 [.ref r, .null, .null] [] G).bind (fun q => mc_ev X 137 48 ls (q.1.toList ++ st) q.2)) ∧
  (∀ (a0 : Int32) (r : Nat) (ls st : List Value) (G : mc_H), st.length ≤ 4 → mc_cls G r = some 8 → mc_ev X 137 48 ls (.int a0 :: .ref r :: st) G = (mc_ev X 129 0 [.ref r, .int a0, .null, .null, .null, .null, .null] [] G).bind (fun q => mc_ev X 137 51 ls (q.1.toList ++ st) q.2)) ∧
  (∀ (v0 v1 : Value) (x : Int32) (st : List Value) (G : mc_H), mc_ev X 137 51 [v0, v1, .int x] st G = mc_ev X 137 52 [v0, v1, .int x] (.int x :: st) G) ∧
  (∀ (x y : Int32) (ls st : List Value) (G : mc_H), mc_ev X 137 52 ls (.int y :: .int x :: st) G = mc_ev X 137 53 ls (.int (x - y) :: st) G) ∧
  (∀ (v : Int32) (ls : List Value) (G : mc_H), mc_ev X 137 53 ls [.int v] G = some (some (.int v), G)) := ⟨fun v1 v2 x st G => ev_aload_n rfl rfl,
  fun ls st G => ev_iconst rfl rfl,
  fun v r ls st G => ev_putfield rfl,
  fun v1 v2 x st G => ev_aload_n rfl rfl,
  fun v0 v2 x st G => ev_iload_n rfl rfl,
  fun a0 r ls st G hr hG => ev_virt (As := [.int a0]) rfl rfl rfl rfl rfl rfl hr hG,
  fun x ls st G => ev_br rfl rfl,
  fun ls st G => ev_ldc rfl rfl,
  fun v ls G => ev_ireturn rfl rfl,
  fun v1 v2 x st G => ev_aload_n rfl rfl,
  fun r ls st G hr hG => ev_virt (As := []) rfl rfl rfl rfl rfl rfl hr hG,
  fun v1 v2 x st G => ev_aload_n rfl rfl,
  fun v1 v2 x st G => ev_aload_n rfl rfl,
  fun r ls st G hr hG => ev_virt (As := []) rfl rfl rfl rfl rfl rfl hr hG,
  fun a0 r ls st G hr hG => ev_virt (As := [.int a0]) rfl rfl rfl rfl rfl rfl hr hG,
  fun v0 v1 v2 x st G => ev_istore_n (X := X) (k := 137) (pc := 28) (ls := [v0, v1, v2]) (st := st) (G := G) (j := 2) (x := x) rfl (Nat.le_of_ble_eq_true rfl),
  fun v1 v2 x st G => ev_aload_n rfl rfl,
  fun r ls st G => ev_getfield rfl,
  fun v0 v2 x st G => ev_iload_n rfl rfl,
  fun ls st G => ev_iconst rfl rfl,
  fun v1 v2 x st G => ev_aload_n rfl rfl,
  fun r ls st G => ev_getfield rfl,
  fun v0 v2 x st G => ev_iload_n rfl rfl,
  fun i r ls st G => ev_iaload rfl,
  fun x y ls st G => ev_isub rfl,
  fun x i r ls st G => ev_iastore rfl,
  fun v1 v2 x st G => ev_aload_n rfl rfl,
  fun v1 v2 x st G => ev_aload_n rfl rfl,
  fun r ls st G hr hG => ev_virt (As := []) rfl rfl rfl rfl rfl rfl hr hG,
  fun a0 r ls st G hr hG => ev_virt (As := [.int a0]) rfl rfl rfl rfl rfl rfl hr hG,
  fun v0 v1 x st G => ev_iload_n rfl rfl,
  fun x y ls st G => ev_isub rfl,
  fun v ls G => ev_ireturn rfl rfl⟩
set_option maxRecDepth 100000 in
theorem h_138_45 {X : mc_X} : ∀ (v0 v1 v2 : Value) (x : Int32) (st : List Value) (G : mc_H), mc_ev X 138 45 [v0, v1, v2, .int x] st G = mc_ev X 138 46 [v0, v1, v2, .int x] (.int x :: st) G := fun v0 v1 v2 x st G => ev_iload_n rfl rfl
set_option maxRecDepth 100000 in
theorem e_138 {X : mc_X} : (∀ (v1 v2 v3 : Value) (x : Nat) (st : List Value) (G : mc_H), mc_ev X 138 0 [.ref x, v1, v2, v3] st G = mc_ev X 138 1 [.ref x, v1, v2, v3] (.ref x :: st) G) ∧
  (∀ (ls st : List Value) (G : mc_H), mc_ev X 138 1 ls st G = mc_ev X 138 2 ls (.int 0 :: st) G) ∧
  (∀ (v : Value) (r : Nat) (ls st : List Value) (G : mc_H), mc_ev X 138 2 ls (v :: .ref r :: st) G = (mc_setf G r 8 0 v).bind (fun G' => mc_ev X 138 5 ls st G')) ∧
  (∀ (v1 v2 v3 : Value) (x : Nat) (st : List Value) (G : mc_H), mc_ev X 138 5 [.ref x, v1, v2, v3] st G = mc_ev X 138 6 [.ref x, v1, v2, v3] (.ref x :: st) G) ∧
  (∀ (v0 v2 v3 : Value) (x : Int32) (st : List Value) (G : mc_H), mc_ev X 138 6 [v0, .int x, v2, v3] st G = mc_ev X 138 7 [v0, .int x, v2, v3] (.int x :: st) G) ∧
  (∀ (a0 : Int32) (r : Nat) (ls st : List Value) (G : mc_H), st.length ≤ 4 → mc_cls G r = some 8 → mc_ev X 138 7 ls (.int a0 :: .ref r :: st) G = (mc_ev X 117 0 [.ref r, .int a0] [] G).bind (fun q => mc_ev X 138 10 ls (q.1.toList ++ st) q.2)) ∧
  (∀ (x : Int32) (ls st : List Value) (G : mc_H), mc_ev X 138 10 ls (.int x :: st) G = if x = 0 then mc_ev X 138 13 ls st G else mc_ev X 138 16 ls st G) ∧
  (∀ (ls st : List Value) (G : mc_H), mc_ev X 138 13 ls st G = mc_ev X 138 15 ls (.int (-1000000) :: st) G) ∧
  (∀ (v : Int32) (ls : List Value) (G : mc_H), mc_ev X 138 15 ls [.int v] G = some (some (.int v), G)) ∧
  (∀ (v1 v2 v3 : Value) (x : Nat) (st : List Value) (G : mc_H), mc_ev X 138 16 [.ref x, v1, v2, v3] st G = mc_ev X 138 17 [.ref x, v1, v2, v3] (.ref x :: st) G) ∧
  (∀ (r : Nat) (ls st : List Value) (G : mc_H), st.length ≤ 4 → mc_cls G r = some 8 → mc_ev X 138 17 ls (.ref r :: st) G = (mc_ev X 119 0 [.ref r, .null, .null] [] G).bind (fun q => mc_ev X 138 20 ls (q.1.toList ++ st) q.2)) ∧
  (∀ (v1 v2 v3 : Value) (x : Nat) (st : List Value) (G : mc_H), mc_ev X 138 20 [.ref x, v1, v2, v3] st G = mc_ev X 138 21 [.ref x, v1, v2, v3] (.ref x :: st) G) ∧
  (∀ (v1 v2 v3 : Value) (x : Nat) (st : List Value) (G : mc_H), mc_ev X 138 21 [.ref x, v1, v2, v3] st G = mc_ev X 138 22 [.ref x, v1, v2, v3] (.ref x :: st) G) ∧
  (∀ (r : Nat) (ls st : List Value) (G : mc_H), st.length ≤ 4 → mc_cls G r = some 8 → mc_ev X 138 22 ls (.ref r :: st) G = (mc_ev X 130 0 [.ref r, .null, .null] [] G).bind (fun q => mc_ev X 138 25 ls (q.1.toList ++ st) q.2)) ∧
  (∀ (a0 : Int32) (r : Nat) (ls st : List Value) (G : mc_H), st.length ≤ 4 → mc_cls G r = some 8 → mc_ev X 138 25 ls (.int a0 :: .ref r :: st) G = (mc_ev X 129 0 [.ref r, .int a0, .null, .null, .null, .null, .null] [] G).bind (fun q => mc_ev X 138 28 ls (q.1.toList ++ st) q.2)) ∧
  (∀ (v0 v1 v2 v3 : Value) (x : Int32) (st : List Value) (G : mc_H), mc_ev X 138 28 [v0, v1, v2, v3] (.int x :: st) G = mc_ev X 138 29 [v0, v1, .int x, v3] st G) ∧
  (∀ (v1 v2 v3 : Value) (x : Nat) (st : List Value) (G : mc_H), mc_ev X 138 29 [.ref x, v1, v2, v3] st G = mc_ev X 138 30 [.ref x, v1, v2, v3] (.ref x :: st) G) ∧
  (∀ (r : Nat) (ls st : List Value) (G : mc_H), mc_ev X 138 30 ls (.ref r :: st) G = (mc_getf G r 8 5).bind (fun v => mc_ev X 138 33 ls (v :: st) G)) ∧
  (∀ (v0 v2 v3 : Value) (x : Int32) (st : List Value) (G : mc_H), mc_ev X 138 33 [v0, .int x, v2, v3] st G = mc_ev X 138 34 [v0, .int x, v2, v3] (.int x :: st) G) ∧
  (∀ (ls st : List Value) (G : mc_H), mc_ev X 138 34 ls st G = mc_ev X 138 35 ls (.int 1 :: st) G) ∧
  (∀ (v1 v2 v3 : Value) (x : Nat) (st : List Value) (G : mc_H), mc_ev X 138 35 [.ref x, v1, v2, v3] st G = mc_ev X 138 36 [.ref x, v1, v2, v3] (.ref x :: st) G) ∧
  (∀ (r : Nat) (ls st : List Value) (G : mc_H), mc_ev X 138 36 ls (.ref r :: st) G = (mc_getf G r 8 5).bind (fun v => mc_ev X 138 39 ls (v :: st) G)) ∧
  (∀ (v0 v2 v3 : Value) (x : Int32) (st : List Value) (G : mc_H), mc_ev X 138 39 [v0, .int x, v2, v3] st G = mc_ev X 138 40 [v0, .int x, v2, v3] (.int x :: st) G) ∧
  (∀ (i : Int32) (r : Value) (ls st : List Value) (G : mc_H), mc_ev X 138 40 ls (.int i :: r :: st) G = (mc_getA X G 0 r i).bind (fun x => mc_ev X 138 41 ls (.int x :: st) G)) ∧
  (∀ (x y : Int32) (ls st : List Value) (G : mc_H), mc_ev X 138 41 ls (.int y :: .int x :: st) G = mc_ev X 138 42 ls (.int (x - y) :: st) G) ∧
  (∀ (x i : Int32) (r : Nat) (ls st : List Value) (G : mc_H), mc_ev X 138 42 ls (.int x :: .int i :: .ref r :: st) G = (mc_setA G 0 r i x).bind (fun G' => mc_ev X 138 43 ls st G')) ∧
  (∀ (ls st : List Value) (G : mc_H), mc_ev X 138 43 ls st G = mc_ev X 138 44 ls (.int 0 :: st) G) ∧
  (∀ (v0 v1 v2 v3 : Value) (x : Int32) (st : List Value) (G : mc_H), mc_ev X 138 44 [v0, v1, v2, v3] (.int x :: st) G = mc_ev X 138 45 [v0, v1, v2, .int x] st G) ∧
  (∀ (v1 v2 v3 : Value) (x : Nat) (st : List Value) (G : mc_H), mc_ev X 138 46 [.ref x, v1, v2, v3] st G = mc_ev X 138 47 [.ref x, v1, v2, v3] (.ref x :: st) G) ∧
  (∀ (r : Nat) (ls st : List Value) (G : mc_H), st.length ≤ 4 → mc_cls G r = some 8 → mc_ev X 138 47 ls (.ref r :: st) G = (mc_ev X 115 0 [.ref r] [] G).bind (fun q => mc_ev X 138 50 ls (q.1.toList ++ st) q.2)) ∧
  (∀ (x y : Int32) (ls st : List Value) (G : mc_H), mc_ev X 138 50 ls (.int y :: .int x :: st) G = if x < y then mc_ev X 138 53 ls st G else mc_ev X 138 101 ls st G) ∧
  (∀ (v1 v2 v3 : Value) (x : Nat) (st : List Value) (G : mc_H), mc_ev X 138 53 [.ref x, v1, v2, v3] st G = mc_ev X 138 54 [.ref x, v1, v2, v3] (.ref x :: st) G) ∧
  (∀ (r : Nat) (ls st : List Value) (G : mc_H), mc_ev X 138 54 ls (.ref r :: st) G = (mc_getf G r 8 9).bind (fun v => mc_ev X 138 57 ls (v :: st) G)) ∧
  (∀ (v0 v1 v2 : Value) (x : Int32) (st : List Value) (G : mc_H), mc_ev X 138 57 [v0, v1, v2, .int x] st G = mc_ev X 138 58 [v0, v1, v2, .int x] (.int x :: st) G) ∧
  (∀ (v1 v2 v3 : Value) (x : Nat) (st : List Value) (G : mc_H), mc_ev X 138 58 [.ref x, v1, v2, v3] st G = mc_ev X 138 59 [.ref x, v1, v2, v3] (.ref x :: st) G) ∧
  (∀ (v0 v1 v2 : Value) (x : Int32) (st : List Value) (G : mc_H), mc_ev X 138 59 [v0, v1, v2, .int x] st G = mc_ev X 138 60 [v0, v1, v2, .int x] (.int x :: st) G) ∧
  (∀ (ls st : List Value) (G : mc_H), mc_ev X 138 60 ls st G = mc_ev X 138 61 ls (.int 0 :: st) G) ∧
  (∀ (a0 : Int32) (a1 : Int32) (r : Nat) (ls st : List Value) (G : mc_H), st.length ≤ 4 → mc_cls G r = some 8 → mc_ev X 138 61 ls (.int a1 :: .int a0 :: .ref r :: st) G = (mc_ev X 123 0 [.ref r, .int a0, .int a1, .null, .null] [] G).bind (fun q => mc_ev X 138 64 ls (q.1.toList ++ st) q.2)) ∧
  (∀ (v0 v2 v3 : Value) (x : Int32) (st : List Value) (G : mc_H), mc_ev X 138 64 [v0, .int x, v2, v3] st G = mc_ev X 138 65 [v0, .int x, v2, v3] (.int x :: st) G) ∧
  (∀ (x y : Int32) (ls st : List Value) (G : mc_H), mc_ev X 138 65 ls (.int y :: .int x :: st) G = if x = y then mc_ev X 138 78 ls st G else mc_ev X 138 68 ls st G) ∧
  (∀ (v1 v2 v3 : Value) (x : Nat) (st : List Value) (G : mc_H), mc_ev X 138 68 [.ref x, v1, v2, v3] st G = mc_ev X 138 69 [.ref x, v1, v2, v3] (.ref x :: st) G) ∧
  (∀ (v0 v1 v2 : Value) (x : Int32) (st : List Value) (G : mc_H), mc_ev X 138 69 [v0, v1, v2, .int x] st G = mc_ev X 138 70 [v0, v1, v2, .int x] (.int x :: st) G) ∧
  (∀ (ls st : List Value) (G : mc_H), mc_ev X 138 70 ls st G = mc_ev X 138 71 ls (.int 1 :: st) G) ∧
  (∀ (a0 : Int32) (a1 : Int32) (r : Nat) (ls st : List Value) (G : mc_H), st.length ≤ 4 → mc_cls G r = some 8 → mc_ev X 138 71 ls (.int a1 :: .int a0 :: .ref r :: st) G = (mc_ev X 123 0 [.ref r, .int a0, .int a1, .null, .null] [] G).bind (fun q => mc_ev X 138 74 ls (q.1.toList ++ st) q.2)) ∧
  (∀ (v0 v2 v3 : Value) (x : Int32) (st : List Value) (G : mc_H), mc_ev X 138 74 [v0, .int x, v2, v3] st G = mc_ev X 138 75 [v0, .int x, v2, v3] (.int x :: st) G) ∧
  (∀ (x y : Int32) (ls st : List Value) (G : mc_H), mc_ev X 138 75 ls (.int y :: .int x :: st) G = if x = y then mc_ev X 138 78 ls st G else mc_ev X 138 88 ls st G) ∧
  (∀ (v1 v2 v3 : Value) (x : Nat) (st : List Value) (G : mc_H), mc_ev X 138 78 [.ref x, v1, v2, v3] st G = mc_ev X 138 79 [.ref x, v1, v2, v3] (.ref x :: st) G) ∧
  (∀ (r : Nat) (ls st : List Value) (G : mc_H), mc_ev X 138 79 ls (.ref r :: st) G = (mc_getf G r 8 9).bind (fun v => mc_ev X 138 82 ls (v :: st) G)) ∧
  (∀ (v0 v1 v2 : Value) (x : Int32) (st : List Value) (G : mc_H), mc_ev X 138 82 [v0, v1, v2, .int x] st G = mc_ev X 138 83 [v0, v1, v2, .int x] (.int x :: st) G) ∧
  (∀ (i : Int32) (r : Value) (ls st : List Value) (G : mc_H), mc_ev X 138 83 ls (.int i :: r :: st) G = (mc_getA X G 0 r i).bind (fun x => mc_ev X 138 84 ls (.int x :: st) G)) ∧
  (∀ (x : Int32) (ls st : List Value) (G : mc_H), mc_ev X 138 84 ls (.int x :: st) G = mc_ev X 138 85 ls (.int (-x) :: st) G) ∧
  (∀ (ls st : List Value) (G : mc_H), mc_ev X 138 85 ls st G = mc_ev X 138 94 ls st G) ∧
  (∀ (v1 v2 v3 : Value) (x : Nat) (st : List Value) (G : mc_H), mc_ev X 138 88 [.ref x, v1, v2, v3] st G = mc_ev X 138 89 [.ref x, v1, v2, v3] (.ref x :: st) G) ∧
  (∀ (r : Nat) (ls st : List Value) (G : mc_H), mc_ev X 138 89 ls (.ref r :: st) G = (mc_getf G r 8 9).bind (fun v => mc_ev X 138 92 ls (v :: st) G)) ∧
  (∀ (v0 v1 v2 : Value) (x : Int32) (st : List Value) (G : mc_H), mc_ev X 138 92 [v0, v1, v2, .int x] st G = mc_ev X 138 93 [v0, v1, v2, .int x] (.int x :: st) G) ∧
  (∀ (i : Int32) (r : Value) (ls st : List Value) (G : mc_H), mc_ev X 138 93 ls (.int i :: r :: st) G = (mc_getA X G 0 r i).bind (fun x => mc_ev X 138 94 ls (.int x :: st) G)) ∧
  (∀ (x i : Int32) (r : Nat) (ls st : List Value) (G : mc_H), mc_ev X 138 94 ls (.int x :: .int i :: .ref r :: st) G = (mc_setA G 0 r i x).bind (fun G' => mc_ev X 138 95 ls st G')) ∧
  (∀ (v0 v1 v2 : Value) (x : Int32) (st : List Value) (G : mc_H), mc_ev X 138 95 [v0, v1, v2, .int x] st G = mc_ev X 138 98 [v0, v1, v2, .int (x + 1)] st G) ∧
  (∀ (ls st : List Value) (G : mc_H), mc_ev X 138 98 ls st G = mc_ev X 138 45 ls st G) ∧
  (∀ (v1 v2 v3 : Value) (x : Nat) (st : List Value) (G : mc_H), mc_ev X 138 101 [.ref x, v1, v2, v3] st G = mc_ev X 138 102 [.ref x, v1, v2, v3] (.ref x :: st) G) ∧
  (∀ (v1 v2 v3 : Value) (x : Nat) (st : List Value) (G : mc_H), mc_ev X 138 102 [.ref x, v1, v2, v3] st G = mc_ev X 138 103 [.ref x, v1, v2, v3] (.ref x :: st) G) ∧
  (∀ (r : Nat) (ls st : List Value) (G : mc_H), st.length ≤ 4 → mc_cls G r = some 8 → mc_ev X 138 103 ls (.ref r :: st) G = (mc_ev X 130 0 [.ref r, .null, .null] [] G).bind (fun q => mc_ev X 138 106 ls (q.1.toList ++ st) q.2)) ∧
  (∀ (a0 : Int32) (r : Nat) (ls st : List Value) (G : mc_H), st.length ≤ 4 → mc_cls G r = some 8 → mc_ev X 138 106 ls (.int a0 :: .ref r :: st) G = (mc_ev X 129 0 [.ref r, .int a0, .null, .null, .null, .null, .null] [] G).bind (fun q => mc_ev X 138 109 ls (q.1.toList ++ st) q.2)) ∧
  (∀ (v0 v1 v3 : Value) (x : Int32) (st : List Value) (G : mc_H), mc_ev X 138 109 [v0, v1, .int x, v3] st G = mc_ev X 138 110 [v0, v1, .int x, v3] (.int x :: st) G) ∧
  (∀ (x y : Int32) (ls st : List Value) (G : mc_H), mc_ev X 138 110 ls (.int y :: .int x :: st) G = mc_ev X 138 111 ls (.int (x - y) :: st) G) ∧
  (∀ (v : Int32) (ls : List Value) (G : mc_H), mc_ev X 138 111 ls [.int v] G = some (some (.int v), G)) := ⟨fun v1 v2 v3 x st G => ev_aload_n rfl rfl,
  fun ls st G => ev_iconst rfl rfl,
  fun v r ls st G => ev_putfield rfl,
  fun v1 v2 v3 x st G => ev_aload_n rfl rfl,
  fun v0 v2 v3 x st G => ev_iload_n rfl rfl,
  fun a0 r ls st G hr hG => ev_virt (As := [.int a0]) rfl rfl rfl rfl rfl rfl hr hG,
  fun x ls st G => ev_br rfl rfl,
  fun ls st G => ev_ldc rfl rfl,
  fun v ls G => ev_ireturn rfl rfl,
  fun v1 v2 v3 x st G => ev_aload_n rfl rfl,
  fun r ls st G hr hG => ev_virt (As := []) rfl rfl rfl rfl rfl rfl hr hG,
  fun v1 v2 v3 x st G => ev_aload_n rfl rfl,
  fun v1 v2 v3 x st G => ev_aload_n rfl rfl,
  fun r ls st G hr hG => ev_virt (As := []) rfl rfl rfl rfl rfl rfl hr hG,
  fun a0 r ls st G hr hG => ev_virt (As := [.int a0]) rfl rfl rfl rfl rfl rfl hr hG,
  fun v0 v1 v2 v3 x st G => ev_istore_n (X := X) (k := 138) (pc := 28) (ls := [v0, v1, v2, v3]) (st := st) (G := G) (j := 2) (x := x) rfl (Nat.le_of_ble_eq_true rfl),
  fun v1 v2 v3 x st G => ev_aload_n rfl rfl,
  fun r ls st G => ev_getfield rfl,
  fun v0 v2 v3 x st G => ev_iload_n rfl rfl,
  fun ls st G => ev_iconst rfl rfl,
  fun v1 v2 v3 x st G => ev_aload_n rfl rfl,
  fun r ls st G => ev_getfield rfl,
  fun v0 v2 v3 x st G => ev_iload_n rfl rfl,
  fun i r ls st G => ev_iaload rfl,
  fun x y ls st G => ev_isub rfl,
  fun x i r ls st G => ev_iastore rfl,
  fun ls st G => ev_iconst rfl rfl,
  fun v0 v1 v2 v3 x st G => ev_istore_n (X := X) (k := 138) (pc := 44) (ls := [v0, v1, v2, v3]) (st := st) (G := G) (j := 3) (x := x) rfl (Nat.le_of_ble_eq_true rfl),
  fun v1 v2 v3 x st G => ev_aload_n rfl rfl,
  fun r ls st G hr hG => ev_virt (As := []) rfl rfl rfl rfl rfl rfl hr hG,
  fun x y ls st G => ev_br rfl rfl,
  fun v1 v2 v3 x st G => ev_aload_n rfl rfl,
  fun r ls st G => ev_getfield rfl,
  fun v0 v1 v2 x st G => ev_iload_n rfl rfl,
  fun v1 v2 v3 x st G => ev_aload_n rfl rfl,
  fun v0 v1 v2 x st G => ev_iload_n rfl rfl,
  fun ls st G => ev_iconst rfl rfl,
  fun a0 a1 r ls st G hr hG => ev_virt (As := [.int a0, .int a1]) rfl rfl rfl rfl rfl rfl hr hG,
  fun v0 v2 v3 x st G => ev_iload_n rfl rfl,
  fun x y ls st G => ev_br rfl rfl,
  fun v1 v2 v3 x st G => ev_aload_n rfl rfl,
  fun v0 v1 v2 x st G => ev_iload_n rfl rfl,
  fun ls st G => ev_iconst rfl rfl,
  fun a0 a1 r ls st G hr hG => ev_virt (As := [.int a0, .int a1]) rfl rfl rfl rfl rfl rfl hr hG,
  fun v0 v2 v3 x st G => ev_iload_n rfl rfl,
  fun x y ls st G => ev_br rfl rfl,
  fun v1 v2 v3 x st G => ev_aload_n rfl rfl,
  fun r ls st G => ev_getfield rfl,
  fun v0 v1 v2 x st G => ev_iload_n rfl rfl,
  fun i r ls st G => ev_iaload rfl,
  fun x ls st G => ev_ineg rfl,
  fun ls st G => ev_goto rfl rfl,
  fun v1 v2 v3 x st G => ev_aload_n rfl rfl,
  fun r ls st G => ev_getfield rfl,
  fun v0 v1 v2 x st G => ev_iload_n rfl rfl,
  fun i r ls st G => ev_iaload rfl,
  fun x i r ls st G => ev_iastore rfl,
  fun v0 v1 v2 x st G => ev_iinc (X := X) (k := 138) (pc := 95) (ls := [v0, v1, v2, .int x]) (st := st) (G := G) (j := 3) (n := 1) (x := x) (v := 1) rfl rfl rfl,
  fun ls st G => ev_goto rfl rfl,
  fun v1 v2 v3 x st G => ev_aload_n rfl rfl,
  fun v1 v2 v3 x st G => ev_aload_n rfl rfl,
  fun r ls st G hr hG => ev_virt (As := []) rfl rfl rfl rfl rfl rfl hr hG,
  fun a0 r ls st G hr hG => ev_virt (As := [.int a0]) rfl rfl rfl rfl rfl rfl hr hG,
  fun v0 v1 v3 x st G => ev_iload_n rfl rfl,
  fun x y ls st G => ev_isub rfl,
  fun v ls G => ev_ireturn rfl rfl⟩
set_option maxRecDepth 100000 in
theorem e_139 {X : mc_X} : (∀ (v1 v2 v3 : Value) (x : Nat) (st : List Value) (G : mc_H), mc_ev X 139 0 [.ref x, v1, v2, v3] st G = mc_ev X 139 1 [.ref x, v1, v2, v3] (.ref x :: st) G) ∧
  (∀ (ls st : List Value) (G : mc_H), mc_ev X 139 1 ls st G = mc_ev X 139 2 ls (.int 0 :: st) G) ∧
  (∀ (v : Value) (r : Nat) (ls st : List Value) (G : mc_H), mc_ev X 139 2 ls (v :: .ref r :: st) G = (mc_setf G r 8 0 v).bind (fun G' => mc_ev X 139 5 ls st G')) ∧
  (∀ (v1 v2 v3 : Value) (x : Nat) (st : List Value) (G : mc_H), mc_ev X 139 5 [.ref x, v1, v2, v3] st G = mc_ev X 139 6 [.ref x, v1, v2, v3] (.ref x :: st) G) ∧
  (∀ (v0 v2 v3 : Value) (x : Int32) (st : List Value) (G : mc_H), mc_ev X 139 6 [v0, .int x, v2, v3] st G = mc_ev X 139 7 [v0, .int x, v2, v3] (.int x :: st) G) ∧
  (∀ (a0 : Int32) (r : Nat) (ls st : List Value) (G : mc_H), st.length ≤ 4 → mc_cls G r = some 8 → mc_ev X 139 7 ls (.int a0 :: .ref r :: st) G = (mc_ev X 118 0 [.ref r, .int a0] [] G).bind (fun q => mc_ev X 139 10 ls (q.1.toList ++ st) q.2)) ∧
  (∀ (x : Int32) (ls st : List Value) (G : mc_H), mc_ev X 139 10 ls (.int x :: st) G = if x = 0 then mc_ev X 139 26 ls st G else mc_ev X 139 13 ls st G) ∧
  (∀ (v0 v1 v3 : Value) (x : Int32) (st : List Value) (G : mc_H), mc_ev X 139 13 [v0, v1, .int x, v3] st G = mc_ev X 139 14 [v0, v1, .int x, v3] (.int x :: st) G) ∧
  (∀ (ls st : List Value) (G : mc_H), mc_ev X 139 14 ls st G = mc_ev X 139 17 ls (.int (-1000) :: st) G) ∧
  (∀ (ls st : List Value) (G : mc_H), mc_ev X 139 17 ls st G = mc_ev X 139 20 ls (.int 1000 :: st) G) ∧
  (∀ (a0 : Int32) (a1 : Int32) (a2 : Int32) (ls st : List Value) (G : mc_H), st.length ≤ 4 → mc_ev X 139 20 ls (.int a2 :: .int a1 :: .int a0 :: st) G = (mc_ev X 112 0 [.int a0, .int a1, .int a2] [] G).bind (fun q => mc_ev X 139 23 ls (q.1.toList ++ st) q.2)) ∧
  (∀ (x : Int32) (ls st : List Value) (G : mc_H), mc_ev X 139 23 ls (.int x :: st) G = if x = 0 then mc_ev X 139 26 ls st G else mc_ev X 139 29 ls st G) ∧
  (∀ (ls st : List Value) (G : mc_H), mc_ev X 139 26 ls st G = mc_ev X 139 28 ls (.int (-1000000) :: st) G) ∧
  (∀ (v : Int32) (ls : List Value) (G : mc_H), mc_ev X 139 28 ls [.int v] G = some (some (.int v), G)) ∧
  (∀ (v1 v2 v3 : Value) (x : Nat) (st : List Value) (G : mc_H), mc_ev X 139 29 [.ref x, v1, v2, v3] st G = mc_ev X 139 30 [.ref x, v1, v2, v3] (.ref x :: st) G) ∧
  (∀ (r : Nat) (ls st : List Value) (G : mc_H), st.length ≤ 4 → mc_cls G r = some 8 → mc_ev X 139 30 ls (.ref r :: st) G = (mc_ev X 119 0 [.ref r, .null, .null] [] G).bind (fun q => mc_ev X 139 33 ls (q.1.toList ++ st) q.2)) ∧
  (∀ (v1 v2 v3 : Value) (x : Nat) (st : List Value) (G : mc_H), mc_ev X 139 33 [.ref x, v1, v2, v3] st G = mc_ev X 139 34 [.ref x, v1, v2, v3] (.ref x :: st) G) ∧
  (∀ (r : Nat) (ls st : List Value) (G : mc_H), mc_ev X 139 34 ls (.ref r :: st) G = (mc_getf G r 8 9).bind (fun v => mc_ev X 139 37 ls (v :: st) G)) ∧
  (∀ (v0 v2 v3 : Value) (x : Int32) (st : List Value) (G : mc_H), mc_ev X 139 37 [v0, .int x, v2, v3] st G = mc_ev X 139 38 [v0, .int x, v2, v3] (.int x :: st) G) ∧
  (∀ (i : Int32) (r : Value) (ls st : List Value) (G : mc_H), mc_ev X 139 38 ls (.int i :: r :: st) G = (mc_getA X G 0 r i).bind (fun x => mc_ev X 139 39 ls (.int x :: st) G)) ∧
  (∀ (v0 v1 v2 v3 : Value) (x : Int32) (st : List Value) (G : mc_H), mc_ev X 139 39 [v0, v1, v2, v3] (.int x :: st) G = mc_ev X 139 40 [v0, v1, v2, .int x] st G) ∧
  (∀ (v1 v2 v3 : Value) (x : Nat) (st : List Value) (G : mc_H), mc_ev X 139 40 [.ref x, v1, v2, v3] st G = mc_ev X 139 41 [.ref x, v1, v2, v3] (.ref x :: st) G) ∧
  (∀ (r : Nat) (ls st : List Value) (G : mc_H), mc_ev X 139 41 ls (.ref r :: st) G = (mc_getf G r 8 9).bind (fun v => mc_ev X 139 44 ls (v :: st) G)) ∧
  (∀ (v0 v2 v3 : Value) (x : Int32) (st : List Value) (G : mc_H), mc_ev X 139 44 [v0, .int x, v2, v3] st G = mc_ev X 139 45 [v0, .int x, v2, v3] (.int x :: st) G) ∧
  (∀ (v0 v1 v3 : Value) (x : Int32) (st : List Value) (G : mc_H), mc_ev X 139 45 [v0, v1, .int x, v3] st G = mc_ev X 139 46 [v0, v1, .int x, v3] (.int x :: st) G) ∧
  (∀ (x i : Int32) (r : Nat) (ls st : List Value) (G : mc_H), mc_ev X 139 46 ls (.int x :: .int i :: .ref r :: st) G = (mc_setA G 0 r i x).bind (fun G' => mc_ev X 139 47 ls st G')) ∧
  (∀ (v0 v1 v2 : Value) (x : Int32) (st : List Value) (G : mc_H), mc_ev X 139 47 [v0, v1, v2, .int x] st G = mc_ev X 139 48 [v0, v1, v2, .int x] (.int x :: st) G) ∧
  (∀ (v : Int32) (ls : List Value) (G : mc_H), mc_ev X 139 48 ls [.int v] G = some (some (.int v), G)) := ⟨fun v1 v2 v3 x st G => ev_aload_n rfl rfl,
  fun ls st G => ev_iconst rfl rfl,
  fun v r ls st G => ev_putfield rfl,
  fun v1 v2 v3 x st G => ev_aload_n rfl rfl,
  fun v0 v2 v3 x st G => ev_iload_n rfl rfl,
  fun a0 r ls st G hr hG => ev_virt (As := [.int a0]) rfl rfl rfl rfl rfl rfl hr hG,
  fun x ls st G => ev_br rfl rfl,
  fun v0 v1 v3 x st G => ev_iload_n rfl rfl,
  fun ls st G => ev_sipush rfl rfl,
  fun ls st G => ev_sipush rfl rfl,
  fun a0 a1 a2 ls st G hr => ev_stat (As := [.int a0, .int a1, .int a2]) rfl (by decide) rfl rfl rfl rfl hr,
  fun x ls st G => ev_br rfl rfl,
  fun ls st G => ev_ldc rfl rfl,
  fun v ls G => ev_ireturn rfl rfl,
  fun v1 v2 v3 x st G => ev_aload_n rfl rfl,
  fun r ls st G hr hG => ev_virt (As := []) rfl rfl rfl rfl rfl rfl hr hG,
  fun v1 v2 v3 x st G => ev_aload_n rfl rfl,
  fun r ls st G => ev_getfield rfl,
  fun v0 v2 v3 x st G => ev_iload_n rfl rfl,
  fun i r ls st G => ev_iaload rfl,
  fun v0 v1 v2 v3 x st G => ev_istore_n (X := X) (k := 139) (pc := 39) (ls := [v0, v1, v2, v3]) (st := st) (G := G) (j := 3) (x := x) rfl (Nat.le_of_ble_eq_true rfl),
  fun v1 v2 v3 x st G => ev_aload_n rfl rfl,
  fun r ls st G => ev_getfield rfl,
  fun v0 v2 v3 x st G => ev_iload_n rfl rfl,
  fun v0 v1 v3 x st G => ev_iload_n rfl rfl,
  fun x i r ls st G => ev_iastore rfl,
  fun v0 v1 v2 x st G => ev_iload_n rfl rfl,
  fun v ls G => ev_ireturn rfl rfl⟩
set_option maxRecDepth 100000 in
theorem h_140_27 {X : mc_X} : ∀ (v0 v1 : Value) (x : Int32) (st : List Value) (G : mc_H), mc_ev X 140 27 [v0, v1, .int x] st G = mc_ev X 140 28 [v0, v1, .int x] (.int x :: st) G := fun v0 v1 x st G => ev_iload_n rfl rfl
set_option maxRecDepth 100000 in
theorem e_140 {X : mc_X} : (∀ (v1 v2 : Value) (x : Nat) (st : List Value) (G : mc_H), mc_ev X 140 0 [.ref x, v1, v2] st G = mc_ev X 140 1 [.ref x, v1, v2] (.ref x :: st) G) ∧
  (∀ (ls st : List Value) (G : mc_H), mc_ev X 140 1 ls st G = mc_ev X 140 2 ls (.int 0 :: st) G) ∧
  (∀ (v : Value) (r : Nat) (ls st : List Value) (G : mc_H), mc_ev X 140 2 ls (v :: .ref r :: st) G = (mc_setf G r 8 0 v).bind (fun G' => mc_ev X 140 5 ls st G')) ∧
  (∀ (v0 v2 : Value) (x : Int32) (st : List Value) (G : mc_H), mc_ev X 140 5 [v0, .int x, v2] st G = mc_ev X 140 6 [v0, .int x, v2] (.int x :: st) G) ∧
  (∀ (ls st : List Value) (G : mc_H), mc_ev X 140 6 ls st G = mc_ev X 140 7 ls (.int 0 :: st) G) ∧
  (∀ (v1 v2 : Value) (x : Nat) (st : List Value) (G : mc_H), mc_ev X 140 7 [.ref x, v1, v2] st G = mc_ev X 140 8 [.ref x, v1, v2] (.ref x :: st) G) ∧
  (∀ (r : Nat) (ls st : List Value) (G : mc_H), st.length ≤ 4 → mc_cls G r = some 8 → mc_ev X 140 8 ls (.ref r :: st) G = (mc_ev X 132 0 [.ref r] [] G).bind (fun q => mc_ev X 140 11 ls (q.1.toList ++ st) q.2)) ∧
  (∀ (ls st : List Value) (G : mc_H), mc_ev X 140 11 ls st G = mc_ev X 140 12 ls (.int 1 :: st) G) ∧
  (∀ (x y : Int32) (ls st : List Value) (G : mc_H), mc_ev X 140 12 ls (.int y :: .int x :: st) G = mc_ev X 140 13 ls (.int (x - y) :: st) G) ∧
  (∀ (a0 : Int32) (a1 : Int32) (a2 : Int32) (ls st : List Value) (G : mc_H), st.length ≤ 4 → mc_ev X 140 13 ls (.int a2 :: .int a1 :: .int a0 :: st) G = (mc_ev X 112 0 [.int a0, .int a1, .int a2] [] G).bind (fun q => mc_ev X 140 16 ls (q.1.toList ++ st) q.2)) ∧
  (∀ (x : Int32) (ls st : List Value) (G : mc_H), mc_ev X 140 16 ls (.int x :: st) G = if x = 0 then mc_ev X 140 19 ls st G else mc_ev X 140 21 ls st G) ∧
  (∀ (ls st : List Value) (G : mc_H), mc_ev X 140 19 ls st G = mc_ev X 140 20 ls (.int (-1) :: st) G) ∧
  (∀ (v : Int32) (ls : List Value) (G : mc_H), mc_ev X 140 20 ls [.int v] G = some (some (.int v), G)) ∧
  (∀ (v1 v2 : Value) (x : Nat) (st : List Value) (G : mc_H), mc_ev X 140 21 [.ref x, v1, v2] st G = mc_ev X 140 22 [.ref x, v1, v2] (.ref x :: st) G) ∧
  (∀ (r : Nat) (ls st : List Value) (G : mc_H), st.length ≤ 4 → mc_cls G r = some 8 → mc_ev X 140 22 ls (.ref r :: st) G = (mc_ev X 119 0 [.ref r, .null, .null] [] G).bind (fun q => mc_ev X 140 25 ls (q.1.toList ++ st) q.2)) ∧
  (∀ (ls st : List Value) (G : mc_H), mc_ev X 140 25 ls st G = mc_ev X 140 26 ls (.int 0 :: st) G) ∧
  (∀ (v0 v1 v2 : Value) (x : Int32) (st : List Value) (G : mc_H), mc_ev X 140 26 [v0, v1, v2] (.int x :: st) G = mc_ev X 140 27 [v0, v1, .int x] st G) ∧
  (∀ (v1 v2 : Value) (x : Nat) (st : List Value) (G : mc_H), mc_ev X 140 28 [.ref x, v1, v2] st G = mc_ev X 140 29 [.ref x, v1, v2] (.ref x :: st) G) ∧
  (∀ (r : Nat) (ls st : List Value) (G : mc_H), st.length ≤ 4 → mc_cls G r = some 8 → mc_ev X 140 29 ls (.ref r :: st) G = (mc_ev X 113 0 [.ref r] [] G).bind (fun q => mc_ev X 140 32 ls (q.1.toList ++ st) q.2)) ∧
  (∀ (x y : Int32) (ls st : List Value) (G : mc_H), mc_ev X 140 32 ls (.int y :: .int x :: st) G = if x < y then mc_ev X 140 35 ls st G else mc_ev X 140 73 ls st G) ∧
  (∀ (v1 v2 : Value) (x : Nat) (st : List Value) (G : mc_H), mc_ev X 140 35 [.ref x, v1, v2] st G = mc_ev X 140 36 [.ref x, v1, v2] (.ref x :: st) G) ∧
  (∀ (r : Nat) (ls st : List Value) (G : mc_H), mc_ev X 140 36 ls (.ref r :: st) G = (mc_getf G r 8 5).bind (fun v => mc_ev X 140 39 ls (v :: st) G)) ∧
  (∀ (v0 v1 : Value) (x : Int32) (st : List Value) (G : mc_H), mc_ev X 140 39 [v0, v1, .int x] st G = mc_ev X 140 40 [v0, v1, .int x] (.int x :: st) G) ∧
  (∀ (v1 v2 : Value) (x : Nat) (st : List Value) (G : mc_H), mc_ev X 140 40 [.ref x, v1, v2] st G = mc_ev X 140 41 [.ref x, v1, v2] (.ref x :: st) G) ∧
  (∀ (v0 v1 : Value) (x : Int32) (st : List Value) (G : mc_H), mc_ev X 140 41 [v0, v1, .int x] st G = mc_ev X 140 42 [v0, v1, .int x] (.int x :: st) G) ∧
  (∀ (a0 : Int32) (r : Nat) (ls st : List Value) (G : mc_H), st.length ≤ 4 → mc_cls G r = some 8 → mc_ev X 140 42 ls (.int a0 :: .ref r :: st) G = (mc_ev X 120 0 [.ref r, .int a0] [] G).bind (fun q => mc_ev X 140 45 ls (q.1.toList ++ st) q.2)) ∧
  (∀ (x : Int32) (ls st : List Value) (G : mc_H), mc_ev X 140 45 ls (.int x :: st) G = if x = 0 then mc_ev X 140 57 ls st G else mc_ev X 140 48 ls st G) ∧
  (∀ (v1 v2 : Value) (x : Nat) (st : List Value) (G : mc_H), mc_ev X 140 48 [.ref x, v1, v2] st G = mc_ev X 140 49 [.ref x, v1, v2] (.ref x :: st) G) ∧
  (∀ (r : Nat) (ls st : List Value) (G : mc_H), mc_ev X 140 49 ls (.ref r :: st) G = (mc_getf G r 8 5).bind (fun v => mc_ev X 140 52 ls (v :: st) G)) ∧
  (∀ (v0 v1 : Value) (x : Int32) (st : List Value) (G : mc_H), mc_ev X 140 52 [v0, v1, .int x] st G = mc_ev X 140 53 [v0, v1, .int x] (.int x :: st) G) ∧
  (∀ (i : Int32) (r : Value) (ls st : List Value) (G : mc_H), mc_ev X 140 53 ls (.int i :: r :: st) G = (mc_getA X G 0 r i).bind (fun x => mc_ev X 140 54 ls (.int x :: st) G)) ∧
  (∀ (ls st : List Value) (G : mc_H), mc_ev X 140 54 ls st G = mc_ev X 140 66 ls st G) ∧
  (∀ (v0 v2 : Value) (x : Int32) (st : List Value) (G : mc_H), mc_ev X 140 57 [v0, .int x, v2] st G = mc_ev X 140 58 [v0, .int x, v2] (.int x :: st) G) ∧
  (∀ (v0 v1 : Value) (x : Int32) (st : List Value) (G : mc_H), mc_ev X 140 58 [v0, v1, .int x] st G = mc_ev X 140 59 [v0, v1, .int x] (.int x :: st) G) ∧
  (∀ (v1 v2 : Value) (x : Nat) (st : List Value) (G : mc_H), mc_ev X 140 59 [.ref x, v1, v2] st G = mc_ev X 140 60 [.ref x, v1, v2] (.ref x :: st) G) ∧
  (∀ (r : Nat) (ls st : List Value) (G : mc_H), st.length ≤ 4 → mc_cls G r = some 8 → mc_ev X 140 60 ls (.ref r :: st) G = (mc_ev X 113 0 [.ref r] [] G).bind (fun q => mc_ev X 140 63 ls (q.1.toList ++ st) q.2)) ∧
  (∀ (a0 : Int32) (a1 : Int32) (a2 : Int32) (ls st : List Value) (G : mc_H), st.length ≤ 4 → mc_ev X 140 63 ls (.int a2 :: .int a1 :: .int a0 :: st) G = (mc_ev X 128 0 [.int a0, .int a1, .int a2] [] G).bind (fun q => mc_ev X 140 66 ls (q.1.toList ++ st) q.2)) ∧
  (∀ (x i : Int32) (r : Nat) (ls st : List Value) (G : mc_H), mc_ev X 140 66 ls (.int x :: .int i :: .ref r :: st) G = (mc_setA G 0 r i x).bind (fun G' => mc_ev X 140 67 ls st G')) ∧
  (∀ (v0 v1 : Value) (x : Int32) (st : List Value) (G : mc_H), mc_ev X 140 67 [v0, v1, .int x] st G = mc_ev X 140 70 [v0, v1, .int (x + 1)] st G) ∧
  (∀ (ls st : List Value) (G : mc_H), mc_ev X 140 70 ls st G = mc_ev X 140 27 ls st G) ∧
  (∀ (v1 v2 : Value) (x : Nat) (st : List Value) (G : mc_H), mc_ev X 140 73 [.ref x, v1, v2] st G = mc_ev X 140 74 [.ref x, v1, v2] (.ref x :: st) G) ∧
  (∀ (v1 v2 : Value) (x : Nat) (st : List Value) (G : mc_H), mc_ev X 140 74 [.ref x, v1, v2] st G = mc_ev X 140 75 [.ref x, v1, v2] (.ref x :: st) G) ∧
  (∀ (r : Nat) (ls st : List Value) (G : mc_H), st.length ≤ 4 → mc_cls G r = some 8 → mc_ev X 140 75 ls (.ref r :: st) G = (mc_ev X 130 0 [.ref r, .null, .null] [] G).bind (fun q => mc_ev X 140 78 ls (q.1.toList ++ st) q.2)) ∧
  (∀ (a0 : Int32) (r : Nat) (ls st : List Value) (G : mc_H), st.length ≤ 4 → mc_cls G r = some 8 → mc_ev X 140 78 ls (.int a0 :: .ref r :: st) G = (mc_ev X 129 0 [.ref r, .int a0, .null, .null, .null, .null, .null] [] G).bind (fun q => mc_ev X 140 81 ls (q.1.toList ++ st) q.2)) ∧
  (∀ (v : Int32) (ls : List Value) (G : mc_H), mc_ev X 140 81 ls [.int v] G = some (some (.int v), G)) := ⟨fun v1 v2 x st G => ev_aload_n rfl rfl,
  fun ls st G => ev_iconst rfl rfl,
  fun v r ls st G => ev_putfield rfl,
  fun v0 v2 x st G => ev_iload_n rfl rfl,
  fun ls st G => ev_iconst rfl rfl,
  fun v1 v2 x st G => ev_aload_n rfl rfl,
  fun r ls st G hr hG => ev_virt (As := []) rfl rfl rfl rfl rfl rfl hr hG,
  fun ls st G => ev_iconst rfl rfl,
  fun x y ls st G => ev_isub rfl,
  fun a0 a1 a2 ls st G hr => ev_stat (As := [.int a0, .int a1, .int a2]) rfl (by decide) rfl rfl rfl rfl hr,
  fun x ls st G => ev_br rfl rfl,
  fun ls st G => ev_iconst rfl rfl,
  fun v ls G => ev_ireturn rfl rfl,
  fun v1 v2 x st G => ev_aload_n rfl rfl,
  fun r ls st G hr hG => ev_virt (As := []) rfl rfl rfl rfl rfl rfl hr hG,
  fun ls st G => ev_iconst rfl rfl,
  fun v0 v1 v2 x st G => ev_istore_n (X := X) (k := 140) (pc := 26) (ls := [v0, v1, v2]) (st := st) (G := G) (j := 2) (x := x) rfl (Nat.le_of_ble_eq_true rfl),
  fun v1 v2 x st G => ev_aload_n rfl rfl,
  fun r ls st G hr hG => ev_virt (As := []) rfl rfl rfl rfl rfl rfl hr hG,
  fun x y ls st G => ev_br rfl rfl,
  fun v1 v2 x st G => ev_aload_n rfl rfl,
  fun r ls st G => ev_getfield rfl,
  fun v0 v1 x st G => ev_iload_n rfl rfl,
  fun v1 v2 x st G => ev_aload_n rfl rfl,
  fun v0 v1 x st G => ev_iload_n rfl rfl,
  fun a0 r ls st G hr hG => ev_virt (As := [.int a0]) rfl rfl rfl rfl rfl rfl hr hG,
  fun x ls st G => ev_br rfl rfl,
  fun v1 v2 x st G => ev_aload_n rfl rfl,
  fun r ls st G => ev_getfield rfl,
  fun v0 v1 x st G => ev_iload_n rfl rfl,
  fun i r ls st G => ev_iaload rfl,
  fun ls st G => ev_goto rfl rfl,
  fun v0 v2 x st G => ev_iload_n rfl rfl,
  fun v0 v1 x st G => ev_iload_n rfl rfl,
  fun v1 v2 x st G => ev_aload_n rfl rfl,
  fun r ls st G hr hG => ev_virt (As := []) rfl rfl rfl rfl rfl rfl hr hG,
  fun a0 a1 a2 ls st G hr => ev_stat (As := [.int a0, .int a1, .int a2]) rfl (by decide) rfl rfl rfl rfl hr,
  fun x i r ls st G => ev_iastore rfl,
  fun v0 v1 x st G => ev_iinc (X := X) (k := 140) (pc := 67) (ls := [v0, v1, .int x]) (st := st) (G := G) (j := 2) (n := 1) (x := x) (v := 1) rfl rfl rfl,
  fun ls st G => ev_goto rfl rfl,
  fun v1 v2 x st G => ev_aload_n rfl rfl,
  fun v1 v2 x st G => ev_aload_n rfl rfl,
  fun r ls st G hr hG => ev_virt (As := []) rfl rfl rfl rfl rfl rfl hr hG,
  fun a0 r ls st G hr hG => ev_virt (As := [.int a0]) rfl rfl rfl rfl rfl rfl hr hG,
  fun v ls G => ev_ireturn rfl rfl⟩
set_option maxRecDepth 100000 in
theorem h_141_22 {X : mc_X} : ∀ (v0 v1 v3 v4 : Value) (x : Int32) (st : List Value) (G : mc_H), mc_ev X 141 22 [v0, v1, .int x, v3, v4] st G = mc_ev X 141 23 [v0, v1, .int x, v3, v4] (.int x :: st) G := fun v0 v1 v3 v4 x st G => ev_iload_n rfl rfl
set_option maxRecDepth 100000 in
theorem e_141 {X : mc_X} : (∀ (v1 v2 v3 v4 : Value) (x : Nat) (st : List Value) (G : mc_H), mc_ev X 141 0 [.ref x, v1, v2, v3, v4] st G = mc_ev X 141 1 [.ref x, v1, v2, v3, v4] (.ref x :: st) G) ∧
  (∀ (ls st : List Value) (G : mc_H), mc_ev X 141 1 ls st G = mc_ev X 141 2 ls (.int 0 :: st) G) ∧
  (∀ (v : Value) (r : Nat) (ls st : List Value) (G : mc_H), mc_ev X 141 2 ls (v :: .ref r :: st) G = (mc_setf G r 8 0 v).bind (fun G' => mc_ev X 141 5 ls st G')) ∧
  (∀ (v1 v2 v3 v4 : Value) (x : Nat) (st : List Value) (G : mc_H), mc_ev X 141 5 [.ref x, v1, v2, v3, v4] st G = mc_ev X 141 6 [.ref x, v1, v2, v3, v4] (.ref x :: st) G) ∧
  (∀ (r : Nat) (ls st : List Value) (G : mc_H), st.length ≤ 4 → mc_cls G r = some 8 → mc_ev X 141 6 ls (.ref r :: st) G = (mc_ev X 119 0 [.ref r, .null, .null] [] G).bind (fun q => mc_ev X 141 9 ls (q.1.toList ++ st) q.2)) ∧
  (∀ (ls st : List Value) (G : mc_H), mc_ev X 141 9 ls st G = mc_ev X 141 10 ls (.int 0 :: st) G) ∧
  (∀ (v0 v1 v2 v3 v4 : Value) (x : Int32) (st : List Value) (G : mc_H), mc_ev X 141 10 [v0, v1, v2, v3, v4] (.int x :: st) G = mc_ev X 141 11 [v0, .int x, v2, v3, v4] st G) ∧
  (∀ (ls st : List Value) (G : mc_H), mc_ev X 141 11 ls st G = mc_ev X 141 12 ls (.int 0 :: st) G) ∧
  (∀ (v0 v1 v2 v3 v4 : Value) (x : Int32) (st : List Value) (G : mc_H), mc_ev X 141 12 [v0, v1, v2, v3, v4] (.int x :: st) G = mc_ev X 141 13 [v0, v1, .int x, v3, v4] st G) ∧
  (∀ (v1 v2 v3 v4 : Value) (x : Nat) (st : List Value) (G : mc_H), mc_ev X 141 13 [.ref x, v1, v2, v3, v4] st G = mc_ev X 141 14 [.ref x, v1, v2, v3, v4] (.ref x :: st) G) ∧
  (∀ (v1 v2 v3 v4 : Value) (x : Nat) (st : List Value) (G : mc_H), mc_ev X 141 14 [.ref x, v1, v2, v3, v4] st G = mc_ev X 141 15 [.ref x, v1, v2, v3, v4] (.ref x :: st) G) ∧
  (∀ (r : Nat) (ls st : List Value) (G : mc_H), st.length ≤ 4 → mc_cls G r = some 8 → mc_ev X 141 15 ls (.ref r :: st) G = (mc_ev X 130 0 [.ref r, .null, .null] [] G).bind (fun q => mc_ev X 141 18 ls (q.1.toList ++ st) q.2)) ∧
  (∀ (a0 : Int32) (r : Nat) (ls st : List Value) (G : mc_H), st.length ≤ 4 → mc_cls G r = some 8 → mc_ev X 141 18 ls (.int a0 :: .ref r :: st) G = (mc_ev X 129 0 [.ref r, .int a0, .null, .null, .null, .null, .null] [] G).bind (fun q => mc_ev X 141 21 ls (q.1.toList ++ st) q.2)) ∧
  (∀ (v0 v1 v2 v3 v4 : Value) (x : Int32) (st : List Value) (G : mc_H), mc_ev X 141 21 [v0, v1, v2, v3, v4] (.int x :: st) G = mc_ev X 141 22 [v0, v1, v2, .int x, v4] st G) ∧
  (∀ (v1 v2 v3 v4 : Value) (x : Nat) (st : List Value) (G : mc_H), mc_ev X 141 23 [.ref x, v1, v2, v3, v4] st G = mc_ev X 141 24 [.ref x, v1, v2, v3, v4] (.ref x :: st) G) ∧
  (∀ (r : Nat) (ls st : List Value) (G : mc_H), st.length ≤ 4 → mc_cls G r = some 8 → mc_ev X 141 24 ls (.ref r :: st) G = (mc_ev X 113 0 [.ref r] [] G).bind (fun q => mc_ev X 141 27 ls (q.1.toList ++ st) q.2)) ∧
  (∀ (x y : Int32) (ls st : List Value) (G : mc_H), mc_ev X 141 27 ls (.int y :: .int x :: st) G = if x < y then mc_ev X 141 30 ls st G else mc_ev X 141 91 ls st G) ∧
  (∀ (v1 v2 v3 v4 : Value) (x : Nat) (st : List Value) (G : mc_H), mc_ev X 141 30 [.ref x, v1, v2, v3, v4] st G = mc_ev X 141 31 [.ref x, v1, v2, v3, v4] (.ref x :: st) G) ∧
  (∀ (r : Nat) (ls st : List Value) (G : mc_H), mc_ev X 141 31 ls (.ref r :: st) G = (mc_getf G r 8 5).bind (fun v => mc_ev X 141 34 ls (v :: st) G)) ∧
  (∀ (v0 v1 v3 v4 : Value) (x : Int32) (st : List Value) (G : mc_H), mc_ev X 141 34 [v0, v1, .int x, v3, v4] st G = mc_ev X 141 35 [v0, v1, .int x, v3, v4] (.int x :: st) G) ∧
  (∀ (ls st : List Value) (G : mc_H), mc_ev X 141 35 ls st G = mc_ev X 141 36 ls (.int 1 :: st) G) ∧
  (∀ (v1 v2 v3 v4 : Value) (x : Nat) (st : List Value) (G : mc_H), mc_ev X 141 36 [.ref x, v1, v2, v3, v4] st G = mc_ev X 141 37 [.ref x, v1, v2, v3, v4] (.ref x :: st) G) ∧
  (∀ (r : Nat) (ls st : List Value) (G : mc_H), mc_ev X 141 37 ls (.ref r :: st) G = (mc_getf G r 8 5).bind (fun v => mc_ev X 141 40 ls (v :: st) G)) ∧
  (∀ (v0 v1 v3 v4 : Value) (x : Int32) (st : List Value) (G : mc_H), mc_ev X 141 40 [v0, v1, .int x, v3, v4] st G = mc_ev X 141 41 [v0, v1, .int x, v3, v4] (.int x :: st) G) ∧
  (∀ (i : Int32) (r : Value) (ls st : List Value) (G : mc_H), mc_ev X 141 41 ls (.int i :: r :: st) G = (mc_getA X G 0 r i).bind (fun x => mc_ev X 141 42 ls (.int x :: st) G)) ∧
  (∀ (x y : Int32) (ls st : List Value) (G : mc_H), mc_ev X 141 42 ls (.int y :: .int x :: st) G = mc_ev X 141 43 ls (.int (x - y) :: st) G) ∧
  (∀ (x i : Int32) (r : Nat) (ls st : List Value) (G : mc_H), mc_ev X 141 43 ls (.int x :: .int i :: .ref r :: st) G = (mc_setA G 0 r i x).bind (fun G' => mc_ev X 141 44 ls st G')) ∧
  (∀ (v1 v2 v3 v4 : Value) (x : Nat) (st : List Value) (G : mc_H), mc_ev X 141 44 [.ref x, v1, v2, v3, v4] st G = mc_ev X 141 45 [.ref x, v1, v2, v3, v4] (.ref x :: st) G) ∧
  (∀ (v1 v2 v3 v4 : Value) (x : Nat) (st : List Value) (G : mc_H), mc_ev X 141 45 [.ref x, v1, v2, v3, v4] st G = mc_ev X 141 46 [.ref x, v1, v2, v3, v4] (.ref x :: st) G) ∧
  (∀ (r : Nat) (ls st : List Value) (G : mc_H), st.length ≤ 4 → mc_cls G r = some 8 → mc_ev X 141 46 ls (.ref r :: st) G = (mc_ev X 130 0 [.ref r, .null, .null] [] G).bind (fun q => mc_ev X 141 49 ls (q.1.toList ++ st) q.2)) ∧
  (∀ (a0 : Int32) (r : Nat) (ls st : List Value) (G : mc_H), st.length ≤ 4 → mc_cls G r = some 8 → mc_ev X 141 49 ls (.int a0 :: .ref r :: st) G = (mc_ev X 129 0 [.ref r, .int a0, .null, .null, .null, .null, .null] [] G).bind (fun q => mc_ev X 141 52 ls (q.1.toList ++ st) q.2)) ∧
  (∀ (v0 v1 v2 v3 v4 : Value) (x : Int32) (st : List Value) (G : mc_H), mc_ev X 141 52 [v0, v1, v2, v3, v4] (.int x :: st) G = mc_ev X 141 54 [v0, v1, v2, v3, .int x] st G) ∧
  (∀ (v0 v1 v2 v3 : Value) (x : Int32) (st : List Value) (G : mc_H), mc_ev X 141 54 [v0, v1, v2, v3, .int x] st G = mc_ev X 141 56 [v0, v1, v2, v3, .int x] (.int x :: st) G) ∧
  (∀ (v0 v1 v2 v4 : Value) (x : Int32) (st : List Value) (G : mc_H), mc_ev X 141 56 [v0, v1, v2, .int x, v4] st G = mc_ev X 141 57 [v0, v1, v2, .int x, v4] (.int x :: st) G) ∧
  (∀ (x y : Int32) (ls st : List Value) (G : mc_H), mc_ev X 141 57 ls (.int y :: .int x :: st) G = if x < y then mc_ev X 141 60 ls st G else mc_ev X 141 71 ls st G) ∧
  (∀ (v0 v1 v2 v3 : Value) (x : Int32) (st : List Value) (G : mc_H), mc_ev X 141 60 [v0, v1, v2, v3, .int x] st G = mc_ev X 141 62 [v0, v1, v2, v3, .int x] (.int x :: st) G) ∧
  (∀ (v0 v1 v2 v3 v4 : Value) (x : Int32) (st : List Value) (G : mc_H), mc_ev X 141 62 [v0, v1, v2, v3, v4] (.int x :: st) G = mc_ev X 141 63 [v0, v1, v2, .int x, v4] st G) ∧
  (∀ (v0 v2 v3 v4 : Value) (x : Int32) (st : List Value) (G : mc_H), mc_ev X 141 63 [v0, .int x, v2, v3, v4] st G = mc_ev X 141 66 [v0, .int (x + 1), v2, v3, v4] st G) ∧
  (∀ (ls st : List Value) (G : mc_H), mc_ev X 141 66 ls st G = mc_ev X 141 67 ls (.int 0 :: st) G) ∧
  (∀ (v0 v1 v2 v3 v4 : Value) (x : Int32) (st : List Value) (G : mc_H), mc_ev X 141 67 [v0, v1, v2, v3, v4] (.int x :: st) G = mc_ev X 141 68 [v0, v1, .int x, v3, v4] st G) ∧
  (∀ (ls st : List Value) (G : mc_H), mc_ev X 141 68 ls st G = mc_ev X 141 88 ls st G) ∧
  (∀ (v1 v2 v3 v4 : Value) (x : Nat) (st : List Value) (G : mc_H), mc_ev X 141 71 [.ref x, v1, v2, v3, v4] st G = mc_ev X 141 72 [.ref x, v1, v2, v3, v4] (.ref x :: st) G) ∧
  (∀ (r : Nat) (ls st : List Value) (G : mc_H), mc_ev X 141 72 ls (.ref r :: st) G = (mc_getf G r 8 5).bind (fun v => mc_ev X 141 75 ls (v :: st) G)) ∧
  (∀ (v0 v1 v3 v4 : Value) (x : Int32) (st : List Value) (G : mc_H), mc_ev X 141 75 [v0, v1, .int x, v3, v4] st G = mc_ev X 141 76 [v0, v1, .int x, v3, v4] (.int x :: st) G) ∧
  (∀ (ls st : List Value) (G : mc_H), mc_ev X 141 76 ls st G = mc_ev X 141 77 ls (.int 1 :: st) G) ∧
  (∀ (v1 v2 v3 v4 : Value) (x : Nat) (st : List Value) (G : mc_H), mc_ev X 141 77 [.ref x, v1, v2, v3, v4] st G = mc_ev X 141 78 [.ref x, v1, v2, v3, v4] (.ref x :: st) G) ∧
  (∀ (r : Nat) (ls st : List Value) (G : mc_H), mc_ev X 141 78 ls (.ref r :: st) G = (mc_getf G r 8 5).bind (fun v => mc_ev X 141 81 ls (v :: st) G)) ∧
  (∀ (v0 v1 v3 v4 : Value) (x : Int32) (st : List Value) (G : mc_H), mc_ev X 141 81 [v0, v1, .int x, v3, v4] st G = mc_ev X 141 82 [v0, v1, .int x, v3, v4] (.int x :: st) G) ∧
  (∀ (i : Int32) (r : Value) (ls st : List Value) (G : mc_H), mc_ev X 141 82 ls (.int i :: r :: st) G = (mc_getA X G 0 r i).bind (fun x => mc_ev X 141 83 ls (.int x :: st) G)) ∧
  (∀ (x y : Int32) (ls st : List Value) (G : mc_H), mc_ev X 141 83 ls (.int y :: .int x :: st) G = mc_ev X 141 84 ls (.int (x - y) :: st) G) ∧
  (∀ (x i : Int32) (r : Nat) (ls st : List Value) (G : mc_H), mc_ev X 141 84 ls (.int x :: .int i :: .ref r :: st) G = (mc_setA G 0 r i x).bind (fun G' => mc_ev X 141 85 ls st G')) ∧
  (∀ (v0 v1 v3 v4 : Value) (x : Int32) (st : List Value) (G : mc_H), mc_ev X 141 85 [v0, v1, .int x, v3, v4] st G = mc_ev X 141 88 [v0, v1, .int (x + 1), v3, v4] st G) ∧
  (∀ (ls st : List Value) (G : mc_H), mc_ev X 141 88 ls st G = mc_ev X 141 22 ls st G) ∧
  (∀ (v0 v2 v3 v4 : Value) (x : Int32) (st : List Value) (G : mc_H), mc_ev X 141 91 [v0, .int x, v2, v3, v4] st G = mc_ev X 141 92 [v0, .int x, v2, v3, v4] (.int x :: st) G) ∧
  (∀ (v : Int32) (ls : List Value) (G : mc_H), mc_ev X 141 92 ls [.int v] G = some (some (.int v), G)) := ⟨fun v1 v2 v3 v4 x st G => ev_aload_n rfl rfl,
  fun ls st G => ev_iconst rfl rfl,
  fun v r ls st G => ev_putfield rfl,
  fun v1 v2 v3 v4 x st G => ev_aload_n rfl rfl,
  fun r ls st G hr hG => ev_virt (As := []) rfl rfl rfl rfl rfl rfl hr hG,
  fun ls st G => ev_iconst rfl rfl,
  fun v0 v1 v2 v3 v4 x st G => ev_istore_n (X := X) (k := 141) (pc := 10) (ls := [v0, v1, v2, v3, v4]) (st := st) (G := G) (j := 1) (x := x) rfl (Nat.le_of_ble_eq_true rfl),
  fun ls st G => ev_iconst rfl rfl,
  fun v0 v1 v2 v3 v4 x st G => ev_istore_n (X := X) (k := 141) (pc := 12) (ls := [v0, v1, v2, v3, v4]) (st := st) (G := G) (j := 2) (x := x) rfl (Nat.le_of_ble_eq_true rfl),
  fun v1 v2 v3 v4 x st G => ev_aload_n rfl rfl,
  fun v1 v2 v3 v4 x st G => ev_aload_n rfl rfl,
  fun r ls st G hr hG => ev_virt (As := []) rfl rfl rfl rfl rfl rfl hr hG,
  fun a0 r ls st G hr hG => ev_virt (As := [.int a0]) rfl rfl rfl rfl rfl rfl hr hG,
  fun v0 v1 v2 v3 v4 x st G => ev_istore_n (X := X) (k := 141) (pc := 21) (ls := [v0, v1, v2, v3, v4]) (st := st) (G := G) (j := 3) (x := x) rfl (Nat.le_of_ble_eq_true rfl),
  fun v1 v2 v3 v4 x st G => ev_aload_n rfl rfl,
  fun r ls st G hr hG => ev_virt (As := []) rfl rfl rfl rfl rfl rfl hr hG,
  fun x y ls st G => ev_br rfl rfl,
  fun v1 v2 v3 v4 x st G => ev_aload_n rfl rfl,
  fun r ls st G => ev_getfield rfl,
  fun v0 v1 v3 v4 x st G => ev_iload_n rfl rfl,
  fun ls st G => ev_iconst rfl rfl,
  fun v1 v2 v3 v4 x st G => ev_aload_n rfl rfl,
  fun r ls st G => ev_getfield rfl,
  fun v0 v1 v3 v4 x st G => ev_iload_n rfl rfl,
  fun i r ls st G => ev_iaload rfl,
  fun x y ls st G => ev_isub rfl,
  fun x i r ls st G => ev_iastore rfl,
  fun v1 v2 v3 v4 x st G => ev_aload_n rfl rfl,
  fun v1 v2 v3 v4 x st G => ev_aload_n rfl rfl,
  fun r ls st G hr hG => ev_virt (As := []) rfl rfl rfl rfl rfl rfl hr hG,
  fun a0 r ls st G hr hG => ev_virt (As := [.int a0]) rfl rfl rfl rfl rfl rfl hr hG,
  fun v0 v1 v2 v3 v4 x st G => ev_istore (X := X) (k := 141) (pc := 52) (ls := [v0, v1, v2, v3, v4]) (st := st) (G := G) (j := 4) (x := x) rfl (Nat.le_of_ble_eq_true rfl),
  fun v0 v1 v2 v3 x st G => ev_iload rfl rfl,
  fun v0 v1 v2 v4 x st G => ev_iload_n rfl rfl,
  fun x y ls st G => ev_br rfl rfl,
  fun v0 v1 v2 v3 x st G => ev_iload rfl rfl,
  fun v0 v1 v2 v3 v4 x st G => ev_istore_n (X := X) (k := 141) (pc := 62) (ls := [v0, v1, v2, v3, v4]) (st := st) (G := G) (j := 3) (x := x) rfl (Nat.le_of_ble_eq_true rfl),
  fun v0 v2 v3 v4 x st G => ev_iinc (X := X) (k := 141) (pc := 63) (ls := [v0, .int x, v2, v3, v4]) (st := st) (G := G) (j := 1) (n := 1) (x := x) (v := 1) rfl rfl rfl,
  fun ls st G => ev_iconst rfl rfl,
  fun v0 v1 v2 v3 v4 x st G => ev_istore_n (X := X) (k := 141) (pc := 67) (ls := [v0, v1, v2, v3, v4]) (st := st) (G := G) (j := 2) (x := x) rfl (Nat.le_of_ble_eq_true rfl),
  fun ls st G => ev_goto rfl rfl,
  fun v1 v2 v3 v4 x st G => ev_aload_n rfl rfl,
  fun r ls st G => ev_getfield rfl,
  fun v0 v1 v3 v4 x st G => ev_iload_n rfl rfl,
  fun ls st G => ev_iconst rfl rfl,
  fun v1 v2 v3 v4 x st G => ev_aload_n rfl rfl,
  fun r ls st G => ev_getfield rfl,
  fun v0 v1 v3 v4 x st G => ev_iload_n rfl rfl,
  fun i r ls st G => ev_iaload rfl,
  fun x y ls st G => ev_isub rfl,
  fun x i r ls st G => ev_iastore rfl,
  fun v0 v1 v3 v4 x st G => ev_iinc (X := X) (k := 141) (pc := 85) (ls := [v0, v1, .int x, v3, v4]) (st := st) (G := G) (j := 2) (n := 1) (x := x) (v := 1) rfl rfl rfl,
  fun ls st G => ev_goto rfl rfl,
  fun v0 v2 v3 v4 x st G => ev_iload_n rfl rfl,
  fun v ls G => ev_ireturn rfl rfl⟩
set_option maxRecDepth 100000 in
theorem h_142_35 {X : mc_X} : ∀ (v0 v1 : Value) (x : Int32) (st : List Value) (G : mc_H), mc_ev X 142 35 [v0, v1, .int x] st G = mc_ev X 142 36 [v0, v1, .int x] (.int x :: st) G := fun v0 v1 x st G => ev_iload_n rfl rfl
set_option maxRecDepth 100000 in
theorem h_142_128 {X : mc_X} : ∀ (v0 v1 : Value) (x : Int32) (st : List Value) (G : mc_H), mc_ev X 142 128 [v0, v1, .int x] st G = mc_ev X 142 129 [v0, v1, .int x] (.int x :: st) G := fun v0 v1 x st G => ev_iload_n rfl rfl
set_option maxRecDepth 100000 in
theorem e_142 {X : mc_X} : (∀ (v1 v2 : Value) (x : Nat) (st : List Value) (G : mc_H), mc_ev X 142 0 [.ref x, v1, v2] st G = mc_ev X 142 1 [.ref x, v1, v2] (.ref x :: st) G) ∧
  (∀ (ls st : List Value) (G : mc_H), mc_ev X 142 1 ls st G = mc_ev X 142 2 ls (.int 0 :: st) G) ∧
  (∀ (v : Value) (r : Nat) (ls st : List Value) (G : mc_H), mc_ev X 142 2 ls (v :: .ref r :: st) G = (mc_setf G r 8 0 v).bind (fun G' => mc_ev X 142 5 ls st G')) ∧
  (∀ (v1 v2 : Value) (x : Nat) (st : List Value) (G : mc_H), mc_ev X 142 5 [.ref x, v1, v2] st G = mc_ev X 142 6 [.ref x, v1, v2] (.ref x :: st) G) ∧
  (∀ (r : Nat) (ls st : List Value) (G : mc_H), mc_ev X 142 6 ls (.ref r :: st) G = (mc_getf G r 8 11).bind (fun v => mc_ev X 142 9 ls (v :: st) G)) ∧
  (∀ (x : Int32) (ls st : List Value) (G : mc_H), mc_ev X 142 9 ls (.int x :: st) G = if x = 0 then mc_ev X 142 12 ls st G else mc_ev X 142 15 ls st G) ∧
  (∀ (ls st : List Value) (G : mc_H), mc_ev X 142 12 ls st G = mc_ev X 142 14 ls (.int (-2) :: st) G) ∧
  (∀ (v : Int32) (ls : List Value) (G : mc_H), mc_ev X 142 14 ls [.int v] G = some (some (.int v), G)) ∧
  (∀ (v1 v2 : Value) (x : Nat) (st : List Value) (G : mc_H), mc_ev X 142 15 [.ref x, v1, v2] st G = mc_ev X 142 16 [.ref x, v1, v2] (.ref x :: st) G) ∧
  (∀ (x : Nat) (ls st : List Value) (G : mc_H), mc_ev X 142 16 ls (.ref x :: st) G = mc_ev X 142 17 ls (.ref x :: .ref x :: st) G) ∧
  (∀ (r : Nat) (ls st : List Value) (G : mc_H), mc_ev X 142 17 ls (.ref r :: st) G = (mc_getf G r 8 11).bind (fun v => mc_ev X 142 20 ls (v :: st) G)) ∧
  (∀ (ls st : List Value) (G : mc_H), mc_ev X 142 20 ls st G = mc_ev X 142 21 ls (.int 1 :: st) G) ∧
  (∀ (x y : Int32) (ls st : List Value) (G : mc_H), mc_ev X 142 21 ls (.int y :: .int x :: st) G = mc_ev X 142 22 ls (.int (x - y) :: st) G) ∧
  (∀ (v : Value) (r : Nat) (ls st : List Value) (G : mc_H), mc_ev X 142 22 ls (v :: .ref r :: st) G = (mc_setf G r 8 11 v).bind (fun G' => mc_ev X 142 25 ls st G')) ∧
  (∀ (ls st : List Value) (G : mc_H), mc_ev X 142 25 ls st G = mc_ev X 142 27 ls (.int 72 :: st) G) ∧
  (∀ (v1 v2 : Value) (x : Nat) (st : List Value) (G : mc_H), mc_ev X 142 27 [.ref x, v1, v2] st G = mc_ev X 142 28 [.ref x, v1, v2] (.ref x :: st) G) ∧
  (∀ (r : Nat) (ls st : List Value) (G : mc_H), mc_ev X 142 28 ls (.ref r :: st) G = (mc_getf G r 8 11).bind (fun v => mc_ev X 142 31 ls (v :: st) G)) ∧
  (∀ (x y : Int32) (ls st : List Value) (G : mc_H), mc_ev X 142 31 ls (.int y :: .int x :: st) G = mc_ev X 142 32 ls (.int (x * y) :: st) G) ∧
  (∀ (v0 v1 v2 : Value) (x : Int32) (st : List Value) (G : mc_H), mc_ev X 142 32 [v0, v1, v2] (.int x :: st) G = mc_ev X 142 33 [v0, .int x, v2] st G) ∧
  (∀ (ls st : List Value) (G : mc_H), mc_ev X 142 33 ls st G = mc_ev X 142 34 ls (.int 0 :: st) G) ∧
  (∀ (v0 v1 v2 : Value) (x : Int32) (st : List Value) (G : mc_H), mc_ev X 142 34 [v0, v1, v2] (.int x :: st) G = mc_ev X 142 35 [v0, v1, .int x] st G) ∧
  (∀ (ls st : List Value) (G : mc_H), mc_ev X 142 36 ls st G = mc_ev X 142 38 ls (.int 12 :: st) G) ∧
  (∀ (x y : Int32) (ls st : List Value) (G : mc_H), mc_ev X 142 38 ls (.int y :: .int x :: st) G = if x < y then mc_ev X 142 41 ls st G else mc_ev X 142 126 ls st G) ∧
  (∀ (v1 v2 : Value) (x : Nat) (st : List Value) (G : mc_H), mc_ev X 142 41 [.ref x, v1, v2] st G = mc_ev X 142 42 [.ref x, v1, v2] (.ref x :: st) G) ∧
  (∀ (r : Nat) (ls st : List Value) (G : mc_H), mc_ev X 142 42 ls (.ref r :: st) G = (mc_getf G r 8 5).bind (fun v => mc_ev X 142 45 ls (v :: st) G)) ∧
  (∀ (v0 v1 : Value) (x : Int32) (st : List Value) (G : mc_H), mc_ev X 142 45 [v0, v1, .int x] st G = mc_ev X 142 46 [v0, v1, .int x] (.int x :: st) G) ∧
  (∀ (v1 v2 : Value) (x : Nat) (st : List Value) (G : mc_H), mc_ev X 142 46 [.ref x, v1, v2] st G = mc_ev X 142 47 [.ref x, v1, v2] (.ref x :: st) G) ∧
  (∀ (r : Nat) (ls st : List Value) (G : mc_H), mc_ev X 142 47 ls (.ref r :: st) G = (mc_getf G r 8 10).bind (fun v => mc_ev X 142 50 ls (v :: st) G)) ∧
  (∀ (v0 v2 : Value) (x : Int32) (st : List Value) (G : mc_H), mc_ev X 142 50 [v0, .int x, v2] st G = mc_ev X 142 51 [v0, .int x, v2] (.int x :: st) G) ∧
  (∀ (ls st : List Value) (G : mc_H), mc_ev X 142 51 ls st G = mc_ev X 142 52 ls (.int 4 :: st) G) ∧
  (∀ (v0 v1 : Value) (x : Int32) (st : List Value) (G : mc_H), mc_ev X 142 52 [v0, v1, .int x] st G = mc_ev X 142 53 [v0, v1, .int x] (.int x :: st) G) ∧
  (∀ (x y : Int32) (ls st : List Value) (G : mc_H), mc_ev X 142 53 ls (.int y :: .int x :: st) G = mc_ev X 142 54 ls (.int (x * y) :: st) G) ∧
  (∀ (x y : Int32) (ls st : List Value) (G : mc_H), mc_ev X 142 54 ls (.int y :: .int x :: st) G = mc_ev X 142 55 ls (.int (x + y) :: st) G) ∧
  (∀ (i : Int32) (r : Value) (ls st : List Value) (G : mc_H), mc_ev X 142 55 ls (.int i :: r :: st) G = (mc_getA X G 0 r i).bind (fun x => mc_ev X 142 56 ls (.int x :: st) G)) ∧
  (∀ (x i : Int32) (r : Nat) (ls st : List Value) (G : mc_H), mc_ev X 142 56 ls (.int x :: .int i :: .ref r :: st) G = (mc_setA G 0 r i x).bind (fun G' => mc_ev X 142 57 ls st G')) ∧
  (∀ (v1 v2 : Value) (x : Nat) (st : List Value) (G : mc_H), mc_ev X 142 57 [.ref x, v1, v2] st G = mc_ev X 142 58 [.ref x, v1, v2] (.ref x :: st) G) ∧
  (∀ (r : Nat) (ls st : List Value) (G : mc_H), mc_ev X 142 58 ls (.ref r :: st) G = (mc_getf G r 8 6).bind (fun v => mc_ev X 142 61 ls (v :: st) G)) ∧
  (∀ (v0 v1 : Value) (x : Int32) (st : List Value) (G : mc_H), mc_ev X 142 61 [v0, v1, .int x] st G = mc_ev X 142 62 [v0, v1, .int x] (.int x :: st) G) ∧
  (∀ (v1 v2 : Value) (x : Nat) (st : List Value) (G : mc_H), mc_ev X 142 62 [.ref x, v1, v2] st G = mc_ev X 142 63 [.ref x, v1, v2] (.ref x :: st) G) ∧
  (∀ (r : Nat) (ls st : List Value) (G : mc_H), mc_ev X 142 63 ls (.ref r :: st) G = (mc_getf G r 8 10).bind (fun v => mc_ev X 142 66 ls (v :: st) G)) ∧
  (∀ (v0 v2 : Value) (x : Int32) (st : List Value) (G : mc_H), mc_ev X 142 66 [v0, .int x, v2] st G = mc_ev X 142 67 [v0, .int x, v2] (.int x :: st) G) ∧
  (∀ (ls st : List Value) (G : mc_H), mc_ev X 142 67 ls st G = mc_ev X 142 68 ls (.int 4 :: st) G) ∧
  (∀ (v0 v1 : Value) (x : Int32) (st : List Value) (G : mc_H), mc_ev X 142 68 [v0, v1, .int x] st G = mc_ev X 142 69 [v0, v1, .int x] (.int x :: st) G) ∧
  (∀ (x y : Int32) (ls st : List Value) (G : mc_H), mc_ev X 142 69 ls (.int y :: .int x :: st) G = mc_ev X 142 70 ls (.int (x * y) :: st) G) ∧
  (∀ (x y : Int32) (ls st : List Value) (G : mc_H), mc_ev X 142 70 ls (.int y :: .int x :: st) G = mc_ev X 142 71 ls (.int (x + y) :: st) G) ∧
  (∀ (ls st : List Value) (G : mc_H), mc_ev X 142 71 ls st G = mc_ev X 142 72 ls (.int 1 :: st) G) ∧
  (∀ (x y : Int32) (ls st : List Value) (G : mc_H), mc_ev X 142 72 ls (.int y :: .int x :: st) G = mc_ev X 142 73 ls (.int (x + y) :: st) G) ∧
  (∀ (i : Int32) (r : Value) (ls st : List Value) (G : mc_H), mc_ev X 142 73 ls (.int i :: r :: st) G = (mc_getA X G 0 r i).bind (fun x => mc_ev X 142 74 ls (.int x :: st) G)) ∧
  (∀ (x i : Int32) (r : Nat) (ls st : List Value) (G : mc_H), mc_ev X 142 74 ls (.int x :: .int i :: .ref r :: st) G = (mc_setA G 0 r i x).bind (fun G' => mc_ev X 142 75 ls st G')) ∧
  (∀ (v1 v2 : Value) (x : Nat) (st : List Value) (G : mc_H), mc_ev X 142 75 [.ref x, v1, v2] st G = mc_ev X 142 76 [.ref x, v1, v2] (.ref x :: st) G) ∧
  (∀ (r : Nat) (ls st : List Value) (G : mc_H), mc_ev X 142 76 ls (.ref r :: st) G = (mc_getf G r 8 7).bind (fun v => mc_ev X 142 79 ls (v :: st) G)) ∧
  (∀ (v0 v1 : Value) (x : Int32) (st : List Value) (G : mc_H), mc_ev X 142 79 [v0, v1, .int x] st G = mc_ev X 142 80 [v0, v1, .int x] (.int x :: st) G) ∧
  (∀ (v1 v2 : Value) (x : Nat) (st : List Value) (G : mc_H), mc_ev X 142 80 [.ref x, v1, v2] st G = mc_ev X 142 81 [.ref x, v1, v2] (.ref x :: st) G) ∧
  (∀ (r : Nat) (ls st : List Value) (G : mc_H), mc_ev X 142 81 ls (.ref r :: st) G = (mc_getf G r 8 10).bind (fun v => mc_ev X 142 84 ls (v :: st) G)) ∧
  (∀ (v0 v2 : Value) (x : Int32) (st : List Value) (G : mc_H), mc_ev X 142 84 [v0, .int x, v2] st G = mc_ev X 142 85 [v0, .int x, v2] (.int x :: st) G) ∧
  (∀ (ls st : List Value) (G : mc_H), mc_ev X 142 85 ls st G = mc_ev X 142 86 ls (.int 4 :: st) G) ∧
  (∀ (v0 v1 : Value) (x : Int32) (st : List Value) (G : mc_H), mc_ev X 142 86 [v0, v1, .int x] st G = mc_ev X 142 87 [v0, v1, .int x] (.int x :: st) G) ∧
  (∀ (x y : Int32) (ls st : List Value) (G : mc_H), mc_ev X 142 87 ls (.int y :: .int x :: st) G = mc_ev X 142 88 ls (.int (x * y) :: st) G) ∧
  (∀ (x y : Int32) (ls st : List Value) (G : mc_H), mc_ev X 142 88 ls (.int y :: .int x :: st) G = mc_ev X 142 89 ls (.int (x + y) :: st) G) ∧
  (∀ (ls st : List Value) (G : mc_H), mc_ev X 142 89 ls st G = mc_ev X 142 90 ls (.int 2 :: st) G) ∧
  (∀ (x y : Int32) (ls st : List Value) (G : mc_H), mc_ev X 142 90 ls (.int y :: .int x :: st) G = mc_ev X 142 91 ls (.int (x + y) :: st) G) ∧
  (∀ (i : Int32) (r : Value) (ls st : List Value) (G : mc_H), mc_ev X 142 91 ls (.int i :: r :: st) G = (mc_getA X G 0 r i).bind (fun x => mc_ev X 142 92 ls (.int x :: st) G)) ∧
  (∀ (x i : Int32) (r : Nat) (ls st : List Value) (G : mc_H), mc_ev X 142 92 ls (.int x :: .int i :: .ref r :: st) G = (mc_setA G 0 r i x).bind (fun G' => mc_ev X 142 93 ls st G')) ∧
  (∀ (v1 v2 : Value) (x : Nat) (st : List Value) (G : mc_H), mc_ev X 142 93 [.ref x, v1, v2] st G = mc_ev X 142 94 [.ref x, v1, v2] (.ref x :: st) G) ∧
  (∀ (r : Nat) (ls st : List Value) (G : mc_H), mc_ev X 142 94 ls (.ref r :: st) G = (mc_getf G r 8 8).bind (fun v => mc_ev X 142 97 ls (v :: st) G)) ∧
  (∀ (v0 v1 : Value) (x : Int32) (st : List Value) (G : mc_H), mc_ev X 142 97 [v0, v1, .int x] st G = mc_ev X 142 98 [v0, v1, .int x] (.int x :: st) G) ∧
  (∀ (v1 v2 : Value) (x : Nat) (st : List Value) (G : mc_H), mc_ev X 142 98 [.ref x, v1, v2] st G = mc_ev X 142 99 [.ref x, v1, v2] (.ref x :: st) G) ∧
  (∀ (r : Nat) (ls st : List Value) (G : mc_H), mc_ev X 142 99 ls (.ref r :: st) G = (mc_getf G r 8 10).bind (fun v => mc_ev X 142 102 ls (v :: st) G)) ∧
  (∀ (v0 v2 : Value) (x : Int32) (st : List Value) (G : mc_H), mc_ev X 142 102 [v0, .int x, v2] st G = mc_ev X 142 103 [v0, .int x, v2] (.int x :: st) G) ∧
  (∀ (ls st : List Value) (G : mc_H), mc_ev X 142 103 ls st G = mc_ev X 142 104 ls (.int 4 :: st) G) ∧
  (∀ (v0 v1 : Value) (x : Int32) (st : List Value) (G : mc_H), mc_ev X 142 104 [v0, v1, .int x] st G = mc_ev X 142 105 [v0, v1, .int x] (.int x :: st) G) ∧
  (∀ (x y : Int32) (ls st : List Value) (G : mc_H), mc_ev X 142 105 ls (.int y :: .int x :: st) G = mc_ev X 142 106 ls (.int (x * y) :: st) G) ∧
  (∀ (x y : Int32) (ls st : List Value) (G : mc_H), mc_ev X 142 106 ls (.int y :: .int x :: st) G = mc_ev X 142 107 ls (.int (x + y) :: st) G) ∧
  (∀ (ls st : List Value) (G : mc_H), mc_ev X 142 107 ls st G = mc_ev X 142 108 ls (.int 3 :: st) G) ∧
  (∀ (x y : Int32) (ls st : List Value) (G : mc_H), mc_ev X 142 108 ls (.int y :: .int x :: st) G = mc_ev X 142 109 ls (.int (x + y) :: st) G) ∧
  (∀ (i : Int32) (r : Value) (ls st : List Value) (G : mc_H), mc_ev X 142 109 ls (.int i :: r :: st) G = (mc_getA X G 0 r i).bind (fun x => mc_ev X 142 110 ls (.int x :: st) G)) ∧
  (∀ (ls st : List Value) (G : mc_H), mc_ev X 142 110 ls st G = mc_ev X 142 111 ls (.int 1 :: st) G) ∧
  (∀ (x y : Int32) (ls st : List Value) (G : mc_H), mc_ev X 142 111 ls (.int y :: .int x :: st) G = if x = y then mc_ev X 142 114 ls st G else mc_ev X 142 118 ls st G) ∧
  (∀ (ls st : List Value) (G : mc_H), mc_ev X 142 114 ls st G = mc_ev X 142 115 ls (.int 1 :: st) G) ∧
  (∀ (ls st : List Value) (G : mc_H), mc_ev X 142 115 ls st G = mc_ev X 142 119 ls st G) ∧
  (∀ (ls st : List Value) (G : mc_H), mc_ev X 142 118 ls st G = mc_ev X 142 119 ls (.int 0 :: st) G) ∧
  (∀ (x i : Int32) (r : Nat) (ls st : List Value) (G : mc_H), mc_ev X 142 119 ls (.int x :: .int i :: .ref r :: st) G = (mc_setA G 1 r i (vp_nar .boolean x)).bind (fun G' => mc_ev X 142 120 ls st G')) ∧
  (∀ (v0 v1 : Value) (x : Int32) (st : List Value) (G : mc_H), mc_ev X 142 120 [v0, v1, .int x] st G = mc_ev X 142 123 [v0, v1, .int (x + 1)] st G) ∧
  (∀ (ls st : List Value) (G : mc_H), mc_ev X 142 123 ls st G = mc_ev X 142 35 ls st G) ∧
  (∀ (ls st : List Value) (G : mc_H), mc_ev X 142 126 ls st G = mc_ev X 142 127 ls (.int 0 :: st) G) ∧
  (∀ (v0 v1 v2 : Value) (x : Int32) (st : List Value) (G : mc_H), mc_ev X 142 127 [v0, v1, v2] (.int x :: st) G = mc_ev X 142 128 [v0, v1, .int x] st G) ∧
  (∀ (ls st : List Value) (G : mc_H), mc_ev X 142 129 ls st G = mc_ev X 142 131 ls (.int 24 :: st) G) ∧
  (∀ (x y : Int32) (ls st : List Value) (G : mc_H), mc_ev X 142 131 ls (.int y :: .int x :: st) G = if x < y then mc_ev X 142 134 ls st G else mc_ev X 142 157 ls st G) ∧
  (∀ (v1 v2 : Value) (x : Nat) (st : List Value) (G : mc_H), mc_ev X 142 134 [.ref x, v1, v2] st G = mc_ev X 142 135 [.ref x, v1, v2] (.ref x :: st) G) ∧
  (∀ (r : Nat) (ls st : List Value) (G : mc_H), mc_ev X 142 135 ls (.ref r :: st) G = (mc_getf G r 8 9).bind (fun v => mc_ev X 142 138 ls (v :: st) G)) ∧
  (∀ (v0 v1 : Value) (x : Int32) (st : List Value) (G : mc_H), mc_ev X 142 138 [v0, v1, .int x] st G = mc_ev X 142 139 [v0, v1, .int x] (.int x :: st) G) ∧
  (∀ (v1 v2 : Value) (x : Nat) (st : List Value) (G : mc_H), mc_ev X 142 139 [.ref x, v1, v2] st G = mc_ev X 142 140 [.ref x, v1, v2] (.ref x :: st) G) ∧
  (∀ (r : Nat) (ls st : List Value) (G : mc_H), mc_ev X 142 140 ls (.ref r :: st) G = (mc_getf G r 8 10).bind (fun v => mc_ev X 142 143 ls (v :: st) G)) ∧
  (∀ (v0 v2 : Value) (x : Int32) (st : List Value) (G : mc_H), mc_ev X 142 143 [v0, .int x, v2] st G = mc_ev X 142 144 [v0, .int x, v2] (.int x :: st) G) ∧
  (∀ (ls st : List Value) (G : mc_H), mc_ev X 142 144 ls st G = mc_ev X 142 146 ls (.int 48 :: st) G) ∧
  (∀ (x y : Int32) (ls st : List Value) (G : mc_H), mc_ev X 142 146 ls (.int y :: .int x :: st) G = mc_ev X 142 147 ls (.int (x + y) :: st) G) ∧
  (∀ (v0 v1 : Value) (x : Int32) (st : List Value) (G : mc_H), mc_ev X 142 147 [v0, v1, .int x] st G = mc_ev X 142 148 [v0, v1, .int x] (.int x :: st) G) ∧
  (∀ (x y : Int32) (ls st : List Value) (G : mc_H), mc_ev X 142 148 ls (.int y :: .int x :: st) G = mc_ev X 142 149 ls (.int (x + y) :: st) G) ∧
  (∀ (i : Int32) (r : Value) (ls st : List Value) (G : mc_H), mc_ev X 142 149 ls (.int i :: r :: st) G = (mc_getA X G 0 r i).bind (fun x => mc_ev X 142 150 ls (.int x :: st) G)) ∧
  (∀ (x i : Int32) (r : Nat) (ls st : List Value) (G : mc_H), mc_ev X 142 150 ls (.int x :: .int i :: .ref r :: st) G = (mc_setA G 0 r i x).bind (fun G' => mc_ev X 142 151 ls st G')) ∧
  (∀ (v0 v1 : Value) (x : Int32) (st : List Value) (G : mc_H), mc_ev X 142 151 [v0, v1, .int x] st G = mc_ev X 142 154 [v0, v1, .int (x + 1)] st G) ∧
  (∀ (ls st : List Value) (G : mc_H), mc_ev X 142 154 ls st G = mc_ev X 142 128 ls st G) ∧
  (∀ (v1 v2 : Value) (x : Nat) (st : List Value) (G : mc_H), mc_ev X 142 157 [.ref x, v1, v2] st G = mc_ev X 142 158 [.ref x, v1, v2] (.ref x :: st) G) ∧
  (∀ (r : Nat) (ls st : List Value) (G : mc_H), mc_ev X 142 158 ls (.ref r :: st) G = (mc_getf G r 8 11).bind (fun v => mc_ev X 142 161 ls (v :: st) G)) ∧
  (∀ (v : Int32) (ls : List Value) (G : mc_H), mc_ev X 142 161 ls [.int v] G = some (some (.int v), G)) := ⟨fun v1 v2 x st G => ev_aload_n rfl rfl,
  fun ls st G => ev_iconst rfl rfl,
  fun v r ls st G => ev_putfield rfl,
  fun v1 v2 x st G => ev_aload_n rfl rfl,
  fun r ls st G => ev_getfield rfl,
  fun x ls st G => ev_br rfl rfl,
  fun ls st G => ev_bipush rfl rfl,
  fun v ls G => ev_ireturn rfl rfl,
  fun v1 v2 x st G => ev_aload_n rfl rfl,
  fun x ls st G => ev_dup rfl,
  fun r ls st G => ev_getfield rfl,
  fun ls st G => ev_iconst rfl rfl,
  fun x y ls st G => ev_isub rfl,
  fun v r ls st G => ev_putfield rfl,
  fun ls st G => ev_bipush rfl rfl,
  fun v1 v2 x st G => ev_aload_n rfl rfl,
  fun r ls st G => ev_getfield rfl,
  fun x y ls st G => ev_imul rfl,
  fun v0 v1 v2 x st G => ev_istore_n (X := X) (k := 142) (pc := 32) (ls := [v0, v1, v2]) (st := st) (G := G) (j := 1) (x := x) rfl (Nat.le_of_ble_eq_true rfl),
  fun ls st G => ev_iconst rfl rfl,
  fun v0 v1 v2 x st G => ev_istore_n (X := X) (k := 142) (pc := 34) (ls := [v0, v1, v2]) (st := st) (G := G) (j := 2) (x := x) rfl (Nat.le_of_ble_eq_true rfl),
  fun ls st G => ev_bipush rfl rfl,
  fun x y ls st G => ev_br rfl rfl,
  fun v1 v2 x st G => ev_aload_n rfl rfl,
  fun r ls st G => ev_getfield rfl,
  fun v0 v1 x st G => ev_iload_n rfl rfl,
  fun v1 v2 x st G => ev_aload_n rfl rfl,
  fun r ls st G => ev_getfield rfl,
  fun v0 v2 x st G => ev_iload_n rfl rfl,
  fun ls st G => ev_iconst rfl rfl,
  fun v0 v1 x st G => ev_iload_n rfl rfl,
  fun x y ls st G => ev_imul rfl,
  fun x y ls st G => ev_iadd rfl,
  fun i r ls st G => ev_iaload rfl,
  fun x i r ls st G => ev_iastore rfl,
  fun v1 v2 x st G => ev_aload_n rfl rfl,
  fun r ls st G => ev_getfield rfl,
  fun v0 v1 x st G => ev_iload_n rfl rfl,
  fun v1 v2 x st G => ev_aload_n rfl rfl,
  fun r ls st G => ev_getfield rfl,
  fun v0 v2 x st G => ev_iload_n rfl rfl,
  fun ls st G => ev_iconst rfl rfl,
  fun v0 v1 x st G => ev_iload_n rfl rfl,
  fun x y ls st G => ev_imul rfl,
  fun x y ls st G => ev_iadd rfl,
  fun ls st G => ev_iconst rfl rfl,
  fun x y ls st G => ev_iadd rfl,
  fun i r ls st G => ev_iaload rfl,
  fun x i r ls st G => ev_iastore rfl,
  fun v1 v2 x st G => ev_aload_n rfl rfl,
  fun r ls st G => ev_getfield rfl,
  fun v0 v1 x st G => ev_iload_n rfl rfl,
  fun v1 v2 x st G => ev_aload_n rfl rfl,
  fun r ls st G => ev_getfield rfl,
  fun v0 v2 x st G => ev_iload_n rfl rfl,
  fun ls st G => ev_iconst rfl rfl,
  fun v0 v1 x st G => ev_iload_n rfl rfl,
  fun x y ls st G => ev_imul rfl,
  fun x y ls st G => ev_iadd rfl,
  fun ls st G => ev_iconst rfl rfl,
  fun x y ls st G => ev_iadd rfl,
  fun i r ls st G => ev_iaload rfl,
  fun x i r ls st G => ev_iastore rfl,
  fun v1 v2 x st G => ev_aload_n rfl rfl,
  fun r ls st G => ev_getfield rfl,
  fun v0 v1 x st G => ev_iload_n rfl rfl,
  fun v1 v2 x st G => ev_aload_n rfl rfl,
  fun r ls st G => ev_getfield rfl,
  fun v0 v2 x st G => ev_iload_n rfl rfl,
  fun ls st G => ev_iconst rfl rfl,
  fun v0 v1 x st G => ev_iload_n rfl rfl,
  fun x y ls st G => ev_imul rfl,
  fun x y ls st G => ev_iadd rfl,
  fun ls st G => ev_iconst rfl rfl,
  fun x y ls st G => ev_iadd rfl,
  fun i r ls st G => ev_iaload rfl,
  fun ls st G => ev_iconst rfl rfl,
  fun x y ls st G => ev_br rfl rfl,
  fun ls st G => ev_iconst rfl rfl,
  fun ls st G => ev_goto rfl rfl,
  fun ls st G => ev_iconst rfl rfl,
  fun x i r ls st G => ev_bastore rfl,
  fun v0 v1 x st G => ev_iinc (X := X) (k := 142) (pc := 120) (ls := [v0, v1, .int x]) (st := st) (G := G) (j := 2) (n := 1) (x := x) (v := 1) rfl rfl rfl,
  fun ls st G => ev_goto rfl rfl,
  fun ls st G => ev_iconst rfl rfl,
  fun v0 v1 v2 x st G => ev_istore_n (X := X) (k := 142) (pc := 127) (ls := [v0, v1, v2]) (st := st) (G := G) (j := 2) (x := x) rfl (Nat.le_of_ble_eq_true rfl),
  fun ls st G => ev_bipush rfl rfl,
  fun x y ls st G => ev_br rfl rfl,
  fun v1 v2 x st G => ev_aload_n rfl rfl,
  fun r ls st G => ev_getfield rfl,
  fun v0 v1 x st G => ev_iload_n rfl rfl,
  fun v1 v2 x st G => ev_aload_n rfl rfl,
  fun r ls st G => ev_getfield rfl,
  fun v0 v2 x st G => ev_iload_n rfl rfl,
  fun ls st G => ev_bipush rfl rfl,
  fun x y ls st G => ev_iadd rfl,
  fun v0 v1 x st G => ev_iload_n rfl rfl,
  fun x y ls st G => ev_iadd rfl,
  fun i r ls st G => ev_iaload rfl,
  fun x i r ls st G => ev_iastore rfl,
  fun v0 v1 x st G => ev_iinc (X := X) (k := 142) (pc := 151) (ls := [v0, v1, .int x]) (st := st) (G := G) (j := 2) (n := 1) (x := x) (v := 1) rfl rfl rfl,
  fun ls st G => ev_goto rfl rfl,
  fun v1 v2 x st G => ev_aload_n rfl rfl,
  fun r ls st G => ev_getfield rfl,
  fun v ls G => ev_ireturn rfl rfl⟩
set_option maxRecDepth 100000 in
theorem e_143 {X : mc_X} : (∀ (v1 v2 : Value) (x : Nat) (st : List Value) (G : mc_H), mc_ev X 143 0 [.ref x, v1, v2] st G = mc_ev X 143 1 [.ref x, v1, v2] (.ref x :: st) G) ∧
  (∀ (ls st : List Value) (G : mc_H), mc_ev X 143 1 ls st G = mc_ev X 143 2 ls (.int 0 :: st) G) ∧
  (∀ (v : Value) (r : Nat) (ls st : List Value) (G : mc_H), mc_ev X 143 2 ls (v :: .ref r :: st) G = (mc_setf G r 8 0 v).bind (fun G' => mc_ev X 143 5 ls st G')) ∧
  (∀ (v1 v2 : Value) (x : Nat) (st : List Value) (G : mc_H), mc_ev X 143 5 [.ref x, v1, v2] st G = mc_ev X 143 6 [.ref x, v1, v2] (.ref x :: st) G) ∧
  (∀ (v0 v2 : Value) (x : Int32) (st : List Value) (G : mc_H), mc_ev X 143 6 [v0, .int x, v2] st G = mc_ev X 143 7 [v0, .int x, v2] (.int x :: st) G) ∧
  (∀ (a0 : Int32) (r : Nat) (ls st : List Value) (G : mc_H), st.length ≤ 4 → mc_cls G r = some 8 → mc_ev X 143 7 ls (.int a0 :: .ref r :: st) G = (mc_ev X 117 0 [.ref r, .int a0] [] G).bind (fun q => mc_ev X 143 10 ls (q.1.toList ++ st) q.2)) ∧
  (∀ (x : Int32) (ls st : List Value) (G : mc_H), mc_ev X 143 10 ls (.int x :: st) G = if x = 0 then mc_ev X 143 13 ls st G else mc_ev X 143 15 ls st G) ∧
  (∀ (ls st : List Value) (G : mc_H), mc_ev X 143 13 ls st G = mc_ev X 143 14 ls (.int (-1) :: st) G) ∧
  (∀ (v : Int32) (ls : List Value) (G : mc_H), mc_ev X 143 14 ls [.int v] G = some (some (.int v), G)) ∧
  (∀ (v1 v2 : Value) (x : Nat) (st : List Value) (G : mc_H), mc_ev X 143 15 [.ref x, v1, v2] st G = mc_ev X 143 16 [.ref x, v1, v2] (.ref x :: st) G) ∧
  (∀ (r : Nat) (ls st : List Value) (G : mc_H), mc_ev X 143 16 ls (.ref r :: st) G = (mc_getf G r 8 7).bind (fun v => mc_ev X 143 19 ls (v :: st) G)) ∧
  (∀ (v0 v2 : Value) (x : Int32) (st : List Value) (G : mc_H), mc_ev X 143 19 [v0, .int x, v2] st G = mc_ev X 143 20 [v0, .int x, v2] (.int x :: st) G) ∧
  (∀ (i : Int32) (r : Value) (ls st : List Value) (G : mc_H), mc_ev X 143 20 ls (.int i :: r :: st) G = (mc_getA X G 0 r i).bind (fun x => mc_ev X 143 21 ls (.int x :: st) G)) ∧
  (∀ (v0 v1 v2 : Value) (x : Int32) (st : List Value) (G : mc_H), mc_ev X 143 21 [v0, v1, v2] (.int x :: st) G = mc_ev X 143 22 [v0, v1, .int x] st G) ∧
  (∀ (v1 v2 : Value) (x : Nat) (st : List Value) (G : mc_H), mc_ev X 143 22 [.ref x, v1, v2] st G = mc_ev X 143 23 [.ref x, v1, v2] (.ref x :: st) G) ∧
  (∀ (x : Nat) (ls st : List Value) (G : mc_H), mc_ev X 143 23 ls (.ref x :: st) G = mc_ev X 143 24 ls (.ref x :: .ref x :: st) G) ∧
  (∀ (r : Nat) (ls st : List Value) (G : mc_H), mc_ev X 143 24 ls (.ref r :: st) G = (mc_getf G r 8 2).bind (fun v => mc_ev X 143 27 ls (v :: st) G)) ∧
  (∀ (v0 v1 : Value) (x : Int32) (st : List Value) (G : mc_H), mc_ev X 143 27 [v0, v1, .int x] st G = mc_ev X 143 28 [v0, v1, .int x] (.int x :: st) G) ∧
  (∀ (ls st : List Value) (G : mc_H), mc_ev X 143 28 ls st G = mc_ev X 143 29 ls (.int 1 :: st) G) ∧
  (∀ (x y : Int32) (ls st : List Value) (G : mc_H), mc_ev X 143 29 ls (.int y :: .int x :: st) G = if x = y then mc_ev X 143 32 ls st G else mc_ev X 143 38 ls st G) ∧
  (∀ (ls st : List Value) (G : mc_H), mc_ev X 143 32 ls st G = mc_ev X 143 35 ls (.long 10 :: st) G) ∧
  (∀ (ls st : List Value) (G : mc_H), mc_ev X 143 35 ls st G = mc_ev X 143 65 ls st G) ∧
  (∀ (v0 v1 : Value) (x : Int32) (st : List Value) (G : mc_H), mc_ev X 143 38 [v0, v1, .int x] st G = mc_ev X 143 39 [v0, v1, .int x] (.int x :: st) G) ∧
  (∀ (ls st : List Value) (G : mc_H), mc_ev X 143 39 ls st G = mc_ev X 143 40 ls (.int 4 :: st) G) ∧
  (∀ (x y : Int32) (ls st : List Value) (G : mc_H), mc_ev X 143 40 ls (.int y :: .int x :: st) G = if x = y then mc_ev X 143 43 ls st G else mc_ev X 143 64 ls st G) ∧
  (∀ (v1 v2 : Value) (x : Nat) (st : List Value) (G : mc_H), mc_ev X 143 43 [.ref x, v1, v2] st G = mc_ev X 143 44 [.ref x, v1, v2] (.ref x :: st) G) ∧
  (∀ (r : Nat) (ls st : List Value) (G : mc_H), mc_ev X 143 44 ls (.ref r :: st) G = (mc_getf G r 8 8).bind (fun v => mc_ev X 143 47 ls (v :: st) G)) ∧
  (∀ (v0 v2 : Value) (x : Int32) (st : List Value) (G : mc_H), mc_ev X 143 47 [v0, .int x, v2] st G = mc_ev X 143 48 [v0, .int x, v2] (.int x :: st) G) ∧
  (∀ (i : Int32) (r : Value) (ls st : List Value) (G : mc_H), mc_ev X 143 48 ls (.int i :: r :: st) G = (mc_getA X G 1 r i).bind (fun x => mc_ev X 143 49 ls (.int x :: st) G)) ∧
  (∀ (x : Int32) (ls st : List Value) (G : mc_H), mc_ev X 143 49 ls (.int x :: st) G = if x = 0 then mc_ev X 143 58 ls st G else mc_ev X 143 52 ls st G) ∧
  (∀ (ls st : List Value) (G : mc_H), mc_ev X 143 52 ls st G = mc_ev X 143 55 ls (.long 101 :: st) G) ∧
  (∀ (ls st : List Value) (G : mc_H), mc_ev X 143 55 ls st G = mc_ev X 143 65 ls st G) ∧
  (∀ (ls st : List Value) (G : mc_H), mc_ev X 143 58 ls st G = mc_ev X 143 61 ls (.long 110 :: st) G) ∧
  (∀ (ls st : List Value) (G : mc_H), mc_ev X 143 61 ls st G = mc_ev X 143 65 ls st G) ∧
  (∀ (ls st : List Value) (G : mc_H), mc_ev X 143 64 ls st G = mc_ev X 143 65 ls (.long 1 :: st) G) ∧
  (∀ (x y : Int64) (ls st : List Value) (G : mc_H), mc_ev X 143 65 ls (.long y :: .long x :: st) G = mc_ev X 143 66 ls (.long (x + y) :: st) G) ∧
  (∀ (v : Value) (r : Nat) (ls st : List Value) (G : mc_H), mc_ev X 143 66 ls (v :: .ref r :: st) G = (mc_setf G r 8 2 v).bind (fun G' => mc_ev X 143 69 ls st G')) ∧
  (∀ (v1 v2 : Value) (x : Nat) (st : List Value) (G : mc_H), mc_ev X 143 69 [.ref x, v1, v2] st G = mc_ev X 143 70 [.ref x, v1, v2] (.ref x :: st) G) ∧
  (∀ (v0 v2 : Value) (x : Int32) (st : List Value) (G : mc_H), mc_ev X 143 70 [v0, .int x, v2] st G = mc_ev X 143 71 [v0, .int x, v2] (.int x :: st) G) ∧
  (∀ (a0 : Int32) (r : Nat) (ls st : List Value) (G : mc_H), st.length ≤ 4 → mc_cls G r = some 8 → mc_ev X 143 71 ls (.int a0 :: .ref r :: st) G = (mc_ev X 121 0 [.ref r, .int a0] [] G).bind (fun q => mc_ev X 143 74 ls (q.1.toList ++ st) q.2)) ∧
  (∀ (v : Int32) (ls : List Value) (G : mc_H), mc_ev X 143 74 ls [.int v] G = some (some (.int v), G)) := ⟨fun v1 v2 x st G => ev_aload_n rfl rfl,
  fun ls st G => ev_iconst rfl rfl,
  fun v r ls st G => ev_putfield rfl,
  fun v1 v2 x st G => ev_aload_n rfl rfl,
  fun v0 v2 x st G => ev_iload_n rfl rfl,
  fun a0 r ls st G hr hG => ev_virt (As := [.int a0]) rfl rfl rfl rfl rfl rfl hr hG,
  fun x ls st G => ev_br rfl rfl,
  fun ls st G => ev_iconst rfl rfl,
  fun v ls G => ev_ireturn rfl rfl,
  fun v1 v2 x st G => ev_aload_n rfl rfl,
  fun r ls st G => ev_getfield rfl,
  fun v0 v2 x st G => ev_iload_n rfl rfl,
  fun i r ls st G => ev_iaload rfl,
  fun v0 v1 v2 x st G => ev_istore_n (X := X) (k := 143) (pc := 21) (ls := [v0, v1, v2]) (st := st) (G := G) (j := 2) (x := x) rfl (Nat.le_of_ble_eq_true rfl),
  fun v1 v2 x st G => ev_aload_n rfl rfl,
  fun x ls st G => ev_dup rfl,
  fun r ls st G => ev_getfield rfl,
  fun v0 v1 x st G => ev_iload_n rfl rfl,
  fun ls st G => ev_iconst rfl rfl,
  fun x y ls st G => ev_br rfl rfl,
  fun ls st G => ev_ldc2_w rfl rfl,
  fun ls st G => ev_goto rfl rfl,
  fun v0 v1 x st G => ev_iload_n rfl rfl,
  fun ls st G => ev_iconst rfl rfl,
  fun x y ls st G => ev_br rfl rfl,
  fun v1 v2 x st G => ev_aload_n rfl rfl,
  fun r ls st G => ev_getfield rfl,
  fun v0 v2 x st G => ev_iload_n rfl rfl,
  fun i r ls st G => ev_baload rfl,
  fun x ls st G => ev_br rfl rfl,
  fun ls st G => ev_ldc2_w rfl rfl,
  fun ls st G => ev_goto rfl rfl,
  fun ls st G => ev_ldc2_w rfl rfl,
  fun ls st G => ev_goto rfl rfl,
  fun ls st G => ev_lconst rfl rfl,
  fun x y ls st G => ev_ladd rfl,
  fun v r ls st G => ev_putfield rfl,
  fun v1 v2 x st G => ev_aload_n rfl rfl,
  fun v0 v2 x st G => ev_iload_n rfl rfl,
  fun a0 r ls st G hr hG => ev_virt (As := [.int a0]) rfl rfl rfl rfl rfl rfl hr hG,
  fun v ls G => ev_ireturn rfl rfl⟩
set_option maxRecDepth 100000 in
theorem e_144 {X : mc_X} : (∀ (v1 : Value) (x : Nat) (st : List Value) (G : mc_H), mc_ev X 144 0 [.ref x, v1] st G = mc_ev X 144 1 [.ref x, v1] (.ref x :: st) G) ∧
  (∀ (ls st : List Value) (G : mc_H), mc_ev X 144 1 ls st G = mc_ev X 144 2 ls (.int 0 :: st) G) ∧
  (∀ (v : Value) (r : Nat) (ls st : List Value) (G : mc_H), mc_ev X 144 2 ls (v :: .ref r :: st) G = (mc_setf G r 8 0 v).bind (fun G' => mc_ev X 144 5 ls st G')) ∧
  (∀ (v1 : Value) (x : Nat) (st : List Value) (G : mc_H), mc_ev X 144 5 [.ref x, v1] st G = mc_ev X 144 6 [.ref x, v1] (.ref x :: st) G) ∧
  (∀ (v0 : Value) (x : Int32) (st : List Value) (G : mc_H), mc_ev X 144 6 [v0, .int x] st G = mc_ev X 144 7 [v0, .int x] (.int x :: st) G) ∧
  (∀ (a0 : Int32) (r : Nat) (ls st : List Value) (G : mc_H), st.length ≤ 4 → mc_cls G r = some 8 → mc_ev X 144 7 ls (.int a0 :: .ref r :: st) G = (mc_ev X 117 0 [.ref r, .int a0] [] G).bind (fun q => mc_ev X 144 10 ls (q.1.toList ++ st) q.2)) ∧
  (∀ (x : Int32) (ls st : List Value) (G : mc_H), mc_ev X 144 10 ls (.int x :: st) G = if x = 0 then mc_ev X 144 13 ls st G else mc_ev X 144 15 ls st G) ∧
  (∀ (ls st : List Value) (G : mc_H), mc_ev X 144 13 ls st G = mc_ev X 144 14 ls (.int (-1) :: st) G) ∧
  (∀ (v : Int32) (ls : List Value) (G : mc_H), mc_ev X 144 14 ls [.int v] G = some (some (.int v), G)) ∧
  (∀ (v1 : Value) (x : Nat) (st : List Value) (G : mc_H), mc_ev X 144 15 [.ref x, v1] st G = mc_ev X 144 16 [.ref x, v1] (.ref x :: st) G) ∧
  (∀ (x : Nat) (ls st : List Value) (G : mc_H), mc_ev X 144 16 ls (.ref x :: st) G = mc_ev X 144 17 ls (.ref x :: .ref x :: st) G) ∧
  (∀ (r : Nat) (ls st : List Value) (G : mc_H), mc_ev X 144 17 ls (.ref r :: st) G = (mc_getf G r 8 2).bind (fun v => mc_ev X 144 20 ls (v :: st) G)) ∧
  (∀ (v1 : Value) (x : Nat) (st : List Value) (G : mc_H), mc_ev X 144 20 [.ref x, v1] st G = mc_ev X 144 21 [.ref x, v1] (.ref x :: st) G) ∧
  (∀ (r : Nat) (ls st : List Value) (G : mc_H), mc_ev X 144 21 ls (.ref r :: st) G = (mc_getf G r 8 7).bind (fun v => mc_ev X 144 24 ls (v :: st) G)) ∧
  (∀ (v0 : Value) (x : Int32) (st : List Value) (G : mc_H), mc_ev X 144 24 [v0, .int x] st G = mc_ev X 144 25 [v0, .int x] (.int x :: st) G) ∧
  (∀ (i : Int32) (r : Value) (ls st : List Value) (G : mc_H), mc_ev X 144 25 ls (.int i :: r :: st) G = (mc_getA X G 0 r i).bind (fun x => mc_ev X 144 26 ls (.int x :: st) G)) ∧
  (∀ (ls st : List Value) (G : mc_H), mc_ev X 144 26 ls st G = mc_ev X 144 27 ls (.int 2 :: st) G) ∧
  (∀ (x y : Int32) (ls st : List Value) (G : mc_H), mc_ev X 144 27 ls (.int y :: .int x :: st) G = if x = y then mc_ev X 144 30 ls st G else mc_ev X 144 36 ls st G) ∧
  (∀ (ls st : List Value) (G : mc_H), mc_ev X 144 30 ls st G = mc_ev X 144 33 ls (.long 12000 :: st) G) ∧
  (∀ (ls st : List Value) (G : mc_H), mc_ev X 144 33 ls st G = mc_ev X 144 55 ls st G) ∧
  (∀ (v1 : Value) (x : Nat) (st : List Value) (G : mc_H), mc_ev X 144 36 [.ref x, v1] st G = mc_ev X 144 37 [.ref x, v1] (.ref x :: st) G) ∧
  (∀ (r : Nat) (ls st : List Value) (G : mc_H), mc_ev X 144 37 ls (.ref r :: st) G = (mc_getf G r 8 7).bind (fun v => mc_ev X 144 40 ls (v :: st) G)) ∧
  (∀ (v0 : Value) (x : Int32) (st : List Value) (G : mc_H), mc_ev X 144 40 [v0, .int x] st G = mc_ev X 144 41 [v0, .int x] (.int x :: st) G) ∧
  (∀ (i : Int32) (r : Value) (ls st : List Value) (G : mc_H), mc_ev X 144 41 ls (.int i :: r :: st) G = (mc_getA X G 0 r i).bind (fun x => mc_ev X 144 42 ls (.int x :: st) G)) ∧
  (∀ (ls st : List Value) (G : mc_H), mc_ev X 144 42 ls st G = mc_ev X 144 43 ls (.int 3 :: st) G) ∧
  (∀ (x y : Int32) (ls st : List Value) (G : mc_H), mc_ev X 144 43 ls (.int y :: .int x :: st) G = if x = y then mc_ev X 144 46 ls st G else mc_ev X 144 52 ls st G) ∧
  (∀ (ls st : List Value) (G : mc_H), mc_ev X 144 46 ls st G = mc_ev X 144 49 ls (.long 100000 :: st) G) ∧
  (∀ (ls st : List Value) (G : mc_H), mc_ev X 144 49 ls st G = mc_ev X 144 55 ls st G) ∧
  (∀ (ls st : List Value) (G : mc_H), mc_ev X 144 52 ls st G = mc_ev X 144 55 ls (.long 1000 :: st) G) ∧
  (∀ (x y : Int64) (ls st : List Value) (G : mc_H), mc_ev X 144 55 ls (.long y :: .long x :: st) G = mc_ev X 144 56 ls (.long (x + y) :: st) G) ∧
  (∀ (v : Value) (r : Nat) (ls st : List Value) (G : mc_H), mc_ev X 144 56 ls (v :: .ref r :: st) G = (mc_setf G r 8 2 v).bind (fun G' => mc_ev X 144 59 ls st G')) ∧
  (∀ (v1 : Value) (x : Nat) (st : List Value) (G : mc_H), mc_ev X 144 59 [.ref x, v1] st G = mc_ev X 144 60 [.ref x, v1] (.ref x :: st) G) ∧
  (∀ (v0 : Value) (x : Int32) (st : List Value) (G : mc_H), mc_ev X 144 60 [v0, .int x] st G = mc_ev X 144 61 [v0, .int x] (.int x :: st) G) ∧
  (∀ (a0 : Int32) (r : Nat) (ls st : List Value) (G : mc_H), st.length ≤ 4 → mc_cls G r = some 8 → mc_ev X 144 61 ls (.int a0 :: .ref r :: st) G = (mc_ev X 122 0 [.ref r, .int a0] [] G).bind (fun q => mc_ev X 144 64 ls (q.1.toList ++ st) q.2)) ∧
  (∀ (v : Int32) (ls : List Value) (G : mc_H), mc_ev X 144 64 ls [.int v] G = some (some (.int v), G)) := ⟨fun v1 x st G => ev_aload_n rfl rfl,
  fun ls st G => ev_iconst rfl rfl,
  fun v r ls st G => ev_putfield rfl,
  fun v1 x st G => ev_aload_n rfl rfl,
  fun v0 x st G => ev_iload_n rfl rfl,
  fun a0 r ls st G hr hG => ev_virt (As := [.int a0]) rfl rfl rfl rfl rfl rfl hr hG,
  fun x ls st G => ev_br rfl rfl,
  fun ls st G => ev_iconst rfl rfl,
  fun v ls G => ev_ireturn rfl rfl,
  fun v1 x st G => ev_aload_n rfl rfl,
  fun x ls st G => ev_dup rfl,
  fun r ls st G => ev_getfield rfl,
  fun v1 x st G => ev_aload_n rfl rfl,
  fun r ls st G => ev_getfield rfl,
  fun v0 x st G => ev_iload_n rfl rfl,
  fun i r ls st G => ev_iaload rfl,
  fun ls st G => ev_iconst rfl rfl,
  fun x y ls st G => ev_br rfl rfl,
  fun ls st G => ev_ldc2_w rfl rfl,
  fun ls st G => ev_goto rfl rfl,
  fun v1 x st G => ev_aload_n rfl rfl,
  fun r ls st G => ev_getfield rfl,
  fun v0 x st G => ev_iload_n rfl rfl,
  fun i r ls st G => ev_iaload rfl,
  fun ls st G => ev_iconst rfl rfl,
  fun x y ls st G => ev_br rfl rfl,
  fun ls st G => ev_ldc2_w rfl rfl,
  fun ls st G => ev_goto rfl rfl,
  fun ls st G => ev_ldc2_w rfl rfl,
  fun x y ls st G => ev_ladd rfl,
  fun v r ls st G => ev_putfield rfl,
  fun v1 x st G => ev_aload_n rfl rfl,
  fun v0 x st G => ev_iload_n rfl rfl,
  fun a0 r ls st G hr hG => ev_virt (As := [.int a0]) rfl rfl rfl rfl rfl rfl hr hG,
  fun v ls G => ev_ireturn rfl rfl⟩
set_option maxRecDepth 100000 in
theorem e_145 {X : mc_X} : (∀ (v1 v2 : Value) (x : Nat) (st : List Value) (G : mc_H), mc_ev X 145 0 [.ref x, v1, v2] st G = mc_ev X 145 1 [.ref x, v1, v2] (.ref x :: st) G) ∧
  (∀ (ls st : List Value) (G : mc_H), mc_ev X 145 1 ls st G = mc_ev X 145 2 ls (.int 0 :: st) G) ∧
  (∀ (v : Value) (r : Nat) (ls st : List Value) (G : mc_H), mc_ev X 145 2 ls (v :: .ref r :: st) G = (mc_setf G r 8 0 v).bind (fun G' => mc_ev X 145 5 ls st G')) ∧
  (∀ (v1 v2 : Value) (x : Nat) (st : List Value) (G : mc_H), mc_ev X 145 5 [.ref x, v1, v2] st G = mc_ev X 145 6 [.ref x, v1, v2] (.ref x :: st) G) ∧
  (∀ (v0 v2 : Value) (x : Int32) (st : List Value) (G : mc_H), mc_ev X 145 6 [v0, .int x, v2] st G = mc_ev X 145 7 [v0, .int x, v2] (.int x :: st) G) ∧
  (∀ (a0 : Int32) (r : Nat) (ls st : List Value) (G : mc_H), st.length ≤ 4 → mc_cls G r = some 8 → mc_ev X 145 7 ls (.int a0 :: .ref r :: st) G = (mc_ev X 117 0 [.ref r, .int a0] [] G).bind (fun q => mc_ev X 145 10 ls (q.1.toList ++ st) q.2)) ∧
  (∀ (x : Int32) (ls st : List Value) (G : mc_H), mc_ev X 145 10 ls (.int x :: st) G = if x = 0 then mc_ev X 145 22 ls st G else mc_ev X 145 13 ls st G) ∧
  (∀ (v0 v1 : Value) (x : Int32) (st : List Value) (G : mc_H), mc_ev X 145 13 [v0, v1, .int x] st G = mc_ev X 145 14 [v0, v1, .int x] (.int x :: st) G) ∧
  (∀ (ls st : List Value) (G : mc_H), mc_ev X 145 14 ls st G = mc_ev X 145 15 ls (.int 0 :: st) G) ∧
  (∀ (ls st : List Value) (G : mc_H), mc_ev X 145 15 ls st G = mc_ev X 145 16 ls (.int 4 :: st) G) ∧
  (∀ (a0 : Int32) (a1 : Int32) (a2 : Int32) (ls st : List Value) (G : mc_H), st.length ≤ 4 → mc_ev X 145 16 ls (.int a2 :: .int a1 :: .int a0 :: st) G = (mc_ev X 112 0 [.int a0, .int a1, .int a2] [] G).bind (fun q => mc_ev X 145 19 ls (q.1.toList ++ st) q.2)) ∧
  (∀ (x : Int32) (ls st : List Value) (G : mc_H), mc_ev X 145 19 ls (.int x :: st) G = if x = 0 then mc_ev X 145 22 ls st G else mc_ev X 145 24 ls st G) ∧
  (∀ (ls st : List Value) (G : mc_H), mc_ev X 145 22 ls st G = mc_ev X 145 23 ls (.int (-1) :: st) G) ∧
  (∀ (v : Int32) (ls : List Value) (G : mc_H), mc_ev X 145 23 ls [.int v] G = some (some (.int v), G)) ∧
  (∀ (v0 v1 : Value) (x : Int32) (st : List Value) (G : mc_H), mc_ev X 145 24 [v0, v1, .int x] st G = mc_ev X 145 25 [v0, v1, .int x] (.int x :: st) G) ∧
  (∀ (x : Int32) (ls st : List Value) (G : mc_H), mc_ev X 145 25 ls (.int x :: st) G = if x = 0 then mc_ev X 145 28 ls st G else mc_ev X 145 37 ls st G) ∧
  (∀ (v1 v2 : Value) (x : Nat) (st : List Value) (G : mc_H), mc_ev X 145 28 [.ref x, v1, v2] st G = mc_ev X 145 29 [.ref x, v1, v2] (.ref x :: st) G) ∧
  (∀ (r : Nat) (ls st : List Value) (G : mc_H), mc_ev X 145 29 ls (.ref r :: st) G = (mc_getf G r 8 5).bind (fun v => mc_ev X 145 32 ls (v :: st) G)) ∧
  (∀ (v0 v2 : Value) (x : Int32) (st : List Value) (G : mc_H), mc_ev X 145 32 [v0, .int x, v2] st G = mc_ev X 145 33 [v0, .int x, v2] (.int x :: st) G) ∧
  (∀ (i : Int32) (r : Value) (ls st : List Value) (G : mc_H), mc_ev X 145 33 ls (.int i :: r :: st) G = (mc_getA X G 0 r i).bind (fun x => mc_ev X 145 34 ls (.int x :: st) G)) ∧
  (∀ (ls st : List Value) (G : mc_H), mc_ev X 145 34 ls st G = mc_ev X 145 100 ls st G) ∧
  (∀ (v0 v1 : Value) (x : Int32) (st : List Value) (G : mc_H), mc_ev X 145 37 [v0, v1, .int x] st G = mc_ev X 145 38 [v0, v1, .int x] (.int x :: st) G) ∧
  (∀ (ls st : List Value) (G : mc_H), mc_ev X 145 38 ls st G = mc_ev X 145 39 ls (.int 1 :: st) G) ∧
  (∀ (x y : Int32) (ls st : List Value) (G : mc_H), mc_ev X 145 39 ls (.int y :: .int x :: st) G = if x = y then mc_ev X 145 42 ls st G else mc_ev X 145 51 ls st G) ∧
  (∀ (v1 v2 : Value) (x : Nat) (st : List Value) (G : mc_H), mc_ev X 145 42 [.ref x, v1, v2] st G = mc_ev X 145 43 [.ref x, v1, v2] (.ref x :: st) G) ∧
  (∀ (r : Nat) (ls st : List Value) (G : mc_H), mc_ev X 145 43 ls (.ref r :: st) G = (mc_getf G r 8 6).bind (fun v => mc_ev X 145 46 ls (v :: st) G)) ∧
  (∀ (v0 v2 : Value) (x : Int32) (st : List Value) (G : mc_H), mc_ev X 145 46 [v0, .int x, v2] st G = mc_ev X 145 47 [v0, .int x, v2] (.int x :: st) G) ∧
  (∀ (i : Int32) (r : Value) (ls st : List Value) (G : mc_H), mc_ev X 145 47 ls (.int i :: r :: st) G = (mc_getA X G 0 r i).bind (fun x => mc_ev X 145 48 ls (.int x :: st) G)) ∧
  (∀ (ls st : List Value) (G : mc_H), mc_ev X 145 48 ls st G = mc_ev X 145 100 ls st G) ∧
  (∀ (v0 v1 : Value) (x : Int32) (st : List Value) (G : mc_H), mc_ev X 145 51 [v0, v1, .int x] st G = mc_ev X 145 52 [v0, v1, .int x] (.int x :: st) G) ∧
  (∀ (ls st : List Value) (G : mc_H), mc_ev X 145 52 ls st G = mc_ev X 145 53 ls (.int 2 :: st) G) ∧
  (∀ (x y : Int32) (ls st : List Value) (G : mc_H), mc_ev X 145 53 ls (.int y :: .int x :: st) G = if x = y then mc_ev X 145 56 ls st G else mc_ev X 145 65 ls st G) ∧
  (∀ (v1 v2 : Value) (x : Nat) (st : List Value) (G : mc_H), mc_ev X 145 56 [.ref x, v1, v2] st G = mc_ev X 145 57 [.ref x, v1, v2] (.ref x :: st) G) ∧
  (∀ (r : Nat) (ls st : List Value) (G : mc_H), mc_ev X 145 57 ls (.ref r :: st) G = (mc_getf G r 8 7).bind (fun v => mc_ev X 145 60 ls (v :: st) G)) ∧
  (∀ (v0 v2 : Value) (x : Int32) (st : List Value) (G : mc_H), mc_ev X 145 60 [v0, .int x, v2] st G = mc_ev X 145 61 [v0, .int x, v2] (.int x :: st) G) ∧
  (∀ (i : Int32) (r : Value) (ls st : List Value) (G : mc_H), mc_ev X 145 61 ls (.int i :: r :: st) G = (mc_getA X G 0 r i).bind (fun x => mc_ev X 145 62 ls (.int x :: st) G)) ∧
  (∀ (ls st : List Value) (G : mc_H), mc_ev X 145 62 ls st G = mc_ev X 145 100 ls st G) ∧
  (∀ (v0 v1 : Value) (x : Int32) (st : List Value) (G : mc_H), mc_ev X 145 65 [v0, v1, .int x] st G = mc_ev X 145 66 [v0, v1, .int x] (.int x :: st) G) ∧
  (∀ (ls st : List Value) (G : mc_H), mc_ev X 145 66 ls st G = mc_ev X 145 67 ls (.int 3 :: st) G) ∧
  (∀ (x y : Int32) (ls st : List Value) (G : mc_H), mc_ev X 145 67 ls (.int y :: .int x :: st) G = if x = y then mc_ev X 145 70 ls st G else mc_ev X 145 87 ls st G) ∧
  (∀ (v1 v2 : Value) (x : Nat) (st : List Value) (G : mc_H), mc_ev X 145 70 [.ref x, v1, v2] st G = mc_ev X 145 71 [.ref x, v1, v2] (.ref x :: st) G) ∧
  (∀ (r : Nat) (ls st : List Value) (G : mc_H), mc_ev X 145 71 ls (.ref r :: st) G = (mc_getf G r 8 8).bind (fun v => mc_ev X 145 74 ls (v :: st) G)) ∧
  (∀ (v0 v2 : Value) (x : Int32) (st : List Value) (G : mc_H), mc_ev X 145 74 [v0, .int x, v2] st G = mc_ev X 145 75 [v0, .int x, v2] (.int x :: st) G) ∧
  (∀ (i : Int32) (r : Value) (ls st : List Value) (G : mc_H), mc_ev X 145 75 ls (.int i :: r :: st) G = (mc_getA X G 1 r i).bind (fun x => mc_ev X 145 76 ls (.int x :: st) G)) ∧
  (∀ (x : Int32) (ls st : List Value) (G : mc_H), mc_ev X 145 76 ls (.int x :: st) G = if x = 0 then mc_ev X 145 83 ls st G else mc_ev X 145 79 ls st G) ∧
  (∀ (ls st : List Value) (G : mc_H), mc_ev X 145 79 ls st G = mc_ev X 145 80 ls (.int 1 :: st) G) ∧
  (∀ (ls st : List Value) (G : mc_H), mc_ev X 145 80 ls st G = mc_ev X 145 100 ls st G) ∧
  (∀ (ls st : List Value) (G : mc_H), mc_ev X 145 83 ls st G = mc_ev X 145 84 ls (.int 0 :: st) G) ∧
  (∀ (ls st : List Value) (G : mc_H), mc_ev X 145 84 ls st G = mc_ev X 145 100 ls st G) ∧
  (∀ (v1 v2 : Value) (x : Nat) (st : List Value) (G : mc_H), mc_ev X 145 87 [.ref x, v1, v2] st G = mc_ev X 145 88 [.ref x, v1, v2] (.ref x :: st) G) ∧
  (∀ (v0 v2 : Value) (x : Int32) (st : List Value) (G : mc_H), mc_ev X 145 88 [v0, .int x, v2] st G = mc_ev X 145 89 [v0, .int x, v2] (.int x :: st) G) ∧
  (∀ (a0 : Int32) (r : Nat) (ls st : List Value) (G : mc_H), st.length ≤ 4 → mc_cls G r = some 8 → mc_ev X 145 89 ls (.int a0 :: .ref r :: st) G = (mc_ev X 120 0 [.ref r, .int a0] [] G).bind (fun q => mc_ev X 145 92 ls (q.1.toList ++ st) q.2)) ∧
  (∀ (x : Int32) (ls st : List Value) (G : mc_H), mc_ev X 145 92 ls (.int x :: st) G = if x = 0 then mc_ev X 145 99 ls st G else mc_ev X 145 95 ls st G) ∧
  (∀ (ls st : List Value) (G : mc_H), mc_ev X 145 95 ls st G = mc_ev X 145 96 ls (.int 1 :: st) G) ∧
  (∀ (ls st : List Value) (G : mc_H), mc_ev X 145 96 ls st G = mc_ev X 145 100 ls st G) ∧
  (∀ (ls st : List Value) (G : mc_H), mc_ev X 145 99 ls st G = mc_ev X 145 100 ls (.int 0 :: st) G) ∧
  (∀ (v : Int32) (ls : List Value) (G : mc_H), mc_ev X 145 100 ls [.int v] G = some (some (.int v), G)) := ⟨fun v1 v2 x st G => ev_aload_n rfl rfl,
  fun ls st G => ev_iconst rfl rfl,
  fun v r ls st G => ev_putfield rfl,
  fun v1 v2 x st G => ev_aload_n rfl rfl,
  fun v0 v2 x st G => ev_iload_n rfl rfl,
  fun a0 r ls st G hr hG => ev_virt (As := [.int a0]) rfl rfl rfl rfl rfl rfl hr hG,
  fun x ls st G => ev_br rfl rfl,
  fun v0 v1 x st G => ev_iload_n rfl rfl,
  fun ls st G => ev_iconst rfl rfl,
  fun ls st G => ev_iconst rfl rfl,
  fun a0 a1 a2 ls st G hr => ev_stat (As := [.int a0, .int a1, .int a2]) rfl (by decide) rfl rfl rfl rfl hr,
  fun x ls st G => ev_br rfl rfl,
  fun ls st G => ev_iconst rfl rfl,
  fun v ls G => ev_ireturn rfl rfl,
  fun v0 v1 x st G => ev_iload_n rfl rfl,
  fun x ls st G => ev_br rfl rfl,
  fun v1 v2 x st G => ev_aload_n rfl rfl,
  fun r ls st G => ev_getfield rfl,
  fun v0 v2 x st G => ev_iload_n rfl rfl,
  fun i r ls st G => ev_iaload rfl,
  fun ls st G => ev_goto rfl rfl,
  fun v0 v1 x st G => ev_iload_n rfl rfl,
  fun ls st G => ev_iconst rfl rfl,
  fun x y ls st G => ev_br rfl rfl,
  fun v1 v2 x st G => ev_aload_n rfl rfl,
  fun r ls st G => ev_getfield rfl,
  fun v0 v2 x st G => ev_iload_n rfl rfl,
  fun i r ls st G => ev_iaload rfl,
  fun ls st G => ev_goto rfl rfl,
  fun v0 v1 x st G => ev_iload_n rfl rfl,
  fun ls st G => ev_iconst rfl rfl,
  fun x y ls st G => ev_br rfl rfl,
  fun v1 v2 x st G => ev_aload_n rfl rfl,
  fun r ls st G => ev_getfield rfl,
  fun v0 v2 x st G => ev_iload_n rfl rfl,
  fun i r ls st G => ev_iaload rfl,
  fun ls st G => ev_goto rfl rfl,
  fun v0 v1 x st G => ev_iload_n rfl rfl,
  fun ls st G => ev_iconst rfl rfl,
  fun x y ls st G => ev_br rfl rfl,
  fun v1 v2 x st G => ev_aload_n rfl rfl,
  fun r ls st G => ev_getfield rfl,
  fun v0 v2 x st G => ev_iload_n rfl rfl,
  fun i r ls st G => ev_baload rfl,
  fun x ls st G => ev_br rfl rfl,
  fun ls st G => ev_iconst rfl rfl,
  fun ls st G => ev_goto rfl rfl,
  fun ls st G => ev_iconst rfl rfl,
  fun ls st G => ev_goto rfl rfl,
  fun v1 v2 x st G => ev_aload_n rfl rfl,
  fun v0 v2 x st G => ev_iload_n rfl rfl,
  fun a0 r ls st G hr hG => ev_virt (As := [.int a0]) rfl rfl rfl rfl rfl rfl hr hG,
  fun x ls st G => ev_br rfl rfl,
  fun ls st G => ev_iconst rfl rfl,
  fun ls st G => ev_goto rfl rfl,
  fun ls st G => ev_iconst rfl rfl,
  fun v ls G => ev_ireturn rfl rfl⟩
set_option maxRecDepth 100000 in
theorem e_146 {X : mc_X} : (∀ (v1 v2 v3 v4 v5 v6 v7 v8 : Value) (x : Nat) (st : List Value) (G : mc_H), mc_ev X 146 0 [.ref x, v1, v2, v3, v4, v5, v6, v7, v8] st G = mc_ev X 146 1 [.ref x, v1, v2, v3, v4, v5, v6, v7, v8] (.ref x :: st) G) ∧
  (∀ (ls st : List Value) (G : mc_H), mc_ev X 146 1 ls st G = mc_ev X 146 2 ls (.int 0 :: st) G) ∧
  (∀ (v : Value) (r : Nat) (ls st : List Value) (G : mc_H), mc_ev X 146 2 ls (v :: .ref r :: st) G = (mc_setf G r 8 0 v).bind (fun G' => mc_ev X 146 5 ls st G')) ∧
  (∀ (v1 v2 v3 v4 v5 v6 v7 v8 : Value) (x : Nat) (st : List Value) (G : mc_H), mc_ev X 146 5 [.ref x, v1, v2, v3, v4, v5, v6, v7, v8] st G = mc_ev X 146 6 [.ref x, v1, v2, v3, v4, v5, v6, v7, v8] (.ref x :: st) G) ∧
  (∀ (v0 v2 v3 v4 v5 v6 v7 v8 : Value) (x : Int32) (st : List Value) (G : mc_H), mc_ev X 146 6 [v0, .int x, v2, v3, v4, v5, v6, v7, v8] st G = mc_ev X 146 7 [v0, .int x, v2, v3, v4, v5, v6, v7, v8] (.int x :: st) G) ∧
  (∀ (a0 : Int32) (r : Nat) (ls st : List Value) (G : mc_H), st.length ≤ 4 → mc_cls G r = some 8 → mc_ev X 146 7 ls (.int a0 :: .ref r :: st) G = (mc_ev X 118 0 [.ref r, .int a0] [] G).bind (fun q => mc_ev X 146 10 ls (q.1.toList ++ st) q.2)) ∧
  (∀ (x : Int32) (ls st : List Value) (G : mc_H), mc_ev X 146 10 ls (.int x :: st) G = if x = 0 then mc_ev X 146 23 ls st G else mc_ev X 146 13 ls st G) ∧
  (∀ (v0 v1 v3 v4 v5 v6 v7 v8 : Value) (x : Int32) (st : List Value) (G : mc_H), mc_ev X 146 13 [v0, v1, .int x, v3, v4, v5, v6, v7, v8] st G = mc_ev X 146 14 [v0, v1, .int x, v3, v4, v5, v6, v7, v8] (.int x :: st) G) ∧
  (∀ (ls st : List Value) (G : mc_H), mc_ev X 146 14 ls st G = mc_ev X 146 15 ls (.int 0 :: st) G) ∧
  (∀ (ls st : List Value) (G : mc_H), mc_ev X 146 15 ls st G = mc_ev X 146 17 ls (.int 6 :: st) G) ∧
  (∀ (a0 : Int32) (a1 : Int32) (a2 : Int32) (ls st : List Value) (G : mc_H), st.length ≤ 4 → mc_ev X 146 17 ls (.int a2 :: .int a1 :: .int a0 :: st) G = (mc_ev X 112 0 [.int a0, .int a1, .int a2] [] G).bind (fun q => mc_ev X 146 20 ls (q.1.toList ++ st) q.2)) ∧
  (∀ (x : Int32) (ls st : List Value) (G : mc_H), mc_ev X 146 20 ls (.int x :: st) G = if x = 0 then mc_ev X 146 23 ls st G else mc_ev X 146 25 ls st G) ∧
  (∀ (ls st : List Value) (G : mc_H), mc_ev X 146 23 ls st G = mc_ev X 146 24 ls (.int (-1) :: st) G) ∧
  (∀ (v : Int32) (ls : List Value) (G : mc_H), mc_ev X 146 24 ls [.int v] G = some (some (.int v), G)) ∧
  (∀ (v1 v2 v3 v4 v5 v6 v7 v8 : Value) (x : Nat) (st : List Value) (G : mc_H), mc_ev X 146 25 [.ref x, v1, v2, v3, v4, v5, v6, v7, v8] st G = mc_ev X 146 26 [.ref x, v1, v2, v3, v4, v5, v6, v7, v8] (.ref x :: st) G) ∧
  (∀ (v0 v2 v3 v4 v5 v6 v7 v8 : Value) (x : Int32) (st : List Value) (G : mc_H), mc_ev X 146 26 [v0, .int x, v2, v3, v4, v5, v6, v7, v8] st G = mc_ev X 146 27 [v0, .int x, v2, v3, v4, v5, v6, v7, v8] (.int x :: st) G) ∧
  (∀ (ls st : List Value) (G : mc_H), mc_ev X 146 27 ls st G = mc_ev X 146 28 ls (.int 0 :: st) G) ∧
  (∀ (a0 : Int32) (a1 : Int32) (r : Nat) (ls st : List Value) (G : mc_H), st.length ≤ 4 → mc_cls G r = some 8 → mc_ev X 146 28 ls (.int a1 :: .int a0 :: .ref r :: st) G = (mc_ev X 123 0 [.ref r, .int a0, .int a1, .null, .null] [] G).bind (fun q => mc_ev X 146 31 ls (q.1.toList ++ st) q.2)) ∧
  (∀ (v0 v1 v2 v3 v4 v5 v6 v7 v8 : Value) (x : Int32) (st : List Value) (G : mc_H), mc_ev X 146 31 [v0, v1, v2, v3, v4, v5, v6, v7, v8] (.int x :: st) G = mc_ev X 146 32 [v0, v1, v2, .int x, v4, v5, v6, v7, v8] st G) ∧
  (∀ (v1 v2 v3 v4 v5 v6 v7 v8 : Value) (x : Nat) (st : List Value) (G : mc_H), mc_ev X 146 32 [.ref x, v1, v2, v3, v4, v5, v6, v7, v8] st G = mc_ev X 146 33 [.ref x, v1, v2, v3, v4, v5, v6, v7, v8] (.ref x :: st) G) ∧
  (∀ (v0 v2 v3 v4 v5 v6 v7 v8 : Value) (x : Int32) (st : List Value) (G : mc_H), mc_ev X 146 33 [v0, .int x, v2, v3, v4, v5, v6, v7, v8] st G = mc_ev X 146 34 [v0, .int x, v2, v3, v4, v5, v6, v7, v8] (.int x :: st) G) ∧
  (∀ (ls st : List Value) (G : mc_H), mc_ev X 146 34 ls st G = mc_ev X 146 35 ls (.int 1 :: st) G) ∧
  (∀ (a0 : Int32) (a1 : Int32) (r : Nat) (ls st : List Value) (G : mc_H), st.length ≤ 4 → mc_cls G r = some 8 → mc_ev X 146 35 ls (.int a1 :: .int a0 :: .ref r :: st) G = (mc_ev X 123 0 [.ref r, .int a0, .int a1, .null, .null] [] G).bind (fun q => mc_ev X 146 38 ls (q.1.toList ++ st) q.2)) ∧
  (∀ (v0 v1 v2 v3 v4 v5 v6 v7 v8 : Value) (x : Int32) (st : List Value) (G : mc_H), mc_ev X 146 38 [v0, v1, v2, v3, v4, v5, v6, v7, v8] (.int x :: st) G = mc_ev X 146 40 [v0, v1, v2, v3, .int x, v5, v6, v7, v8] st G) ∧
  (∀ (v1 v2 v3 v4 v5 v6 v7 v8 : Value) (x : Nat) (st : List Value) (G : mc_H), mc_ev X 146 40 [.ref x, v1, v2, v3, v4, v5, v6, v7, v8] st G = mc_ev X 146 41 [.ref x, v1, v2, v3, v4, v5, v6, v7, v8] (.ref x :: st) G) ∧
  (∀ (v0 v2 v3 v4 v5 v6 v7 v8 : Value) (x : Int32) (st : List Value) (G : mc_H), mc_ev X 146 41 [v0, .int x, v2, v3, v4, v5, v6, v7, v8] st G = mc_ev X 146 42 [v0, .int x, v2, v3, v4, v5, v6, v7, v8] (.int x :: st) G) ∧
  (∀ (ls st : List Value) (G : mc_H), mc_ev X 146 42 ls st G = mc_ev X 146 43 ls (.int 0 :: st) G) ∧
  (∀ (a0 : Int32) (a1 : Int32) (r : Nat) (ls st : List Value) (G : mc_H), st.length ≤ 4 → mc_cls G r = some 8 → mc_ev X 146 43 ls (.int a1 :: .int a0 :: .ref r :: st) G = (mc_ev X 125 0 [.ref r, .int a0, .int a1, .null, .null, .null] [] G).bind (fun q => mc_ev X 146 46 ls (q.1.toList ++ st) q.2)) ∧
  (∀ (v0 v1 v2 v3 v4 v5 v6 v7 v8 : Value) (x : Int32) (st : List Value) (G : mc_H), mc_ev X 146 46 [v0, v1, v2, v3, v4, v5, v6, v7, v8] (.int x :: st) G = mc_ev X 146 48 [v0, v1, v2, v3, v4, .int x, v6, v7, v8] st G) ∧
  (∀ (v1 v2 v3 v4 v5 v6 v7 v8 : Value) (x : Nat) (st : List Value) (G : mc_H), mc_ev X 146 48 [.ref x, v1, v2, v3, v4, v5, v6, v7, v8] st G = mc_ev X 146 49 [.ref x, v1, v2, v3, v4, v5, v6, v7, v8] (.ref x :: st) G) ∧
  (∀ (v0 v2 v3 v4 v5 v6 v7 v8 : Value) (x : Int32) (st : List Value) (G : mc_H), mc_ev X 146 49 [v0, .int x, v2, v3, v4, v5, v6, v7, v8] st G = mc_ev X 146 50 [v0, .int x, v2, v3, v4, v5, v6, v7, v8] (.int x :: st) G) ∧
  (∀ (ls st : List Value) (G : mc_H), mc_ev X 146 50 ls st G = mc_ev X 146 51 ls (.int 1 :: st) G) ∧
  (∀ (a0 : Int32) (a1 : Int32) (r : Nat) (ls st : List Value) (G : mc_H), st.length ≤ 4 → mc_cls G r = some 8 → mc_ev X 146 51 ls (.int a1 :: .int a0 :: .ref r :: st) G = (mc_ev X 125 0 [.ref r, .int a0, .int a1, .null, .null, .null] [] G).bind (fun q => mc_ev X 146 54 ls (q.1.toList ++ st) q.2)) ∧
  (∀ (v0 v1 v2 v3 v4 v5 v6 v7 v8 : Value) (x : Int32) (st : List Value) (G : mc_H), mc_ev X 146 54 [v0, v1, v2, v3, v4, v5, v6, v7, v8] (.int x :: st) G = mc_ev X 146 56 [v0, v1, v2, v3, v4, v5, .int x, v7, v8] st G) ∧
  (∀ (v1 v2 v3 v4 v5 v6 v7 v8 : Value) (x : Nat) (st : List Value) (G : mc_H), mc_ev X 146 56 [.ref x, v1, v2, v3, v4, v5, v6, v7, v8] st G = mc_ev X 146 57 [.ref x, v1, v2, v3, v4, v5, v6, v7, v8] (.ref x :: st) G) ∧
  (∀ (v0 v1 v2 v4 v5 v6 v7 v8 : Value) (x : Int32) (st : List Value) (G : mc_H), mc_ev X 146 57 [v0, v1, v2, .int x, v4, v5, v6, v7, v8] st G = mc_ev X 146 58 [v0, v1, v2, .int x, v4, v5, v6, v7, v8] (.int x :: st) G) ∧
  (∀ (a0 : Int32) (r : Nat) (ls st : List Value) (G : mc_H), st.length ≤ 4 → mc_cls G r = some 8 → mc_ev X 146 58 ls (.int a0 :: .ref r :: st) G = (mc_ev X 121 0 [.ref r, .int a0] [] G).bind (fun q => mc_ev X 146 61 ls (q.1.toList ++ st) q.2)) ∧
  (∀ (v1 v2 v3 v4 v5 v6 v7 v8 : Value) (x : Nat) (st : List Value) (G : mc_H), mc_ev X 146 61 [.ref x, v1, v2, v3, v4, v5, v6, v7, v8] st G = mc_ev X 146 62 [.ref x, v1, v2, v3, v4, v5, v6, v7, v8] (.ref x :: st) G) ∧
  (∀ (v0 v1 v2 v3 v5 v6 v7 v8 : Value) (x : Int32) (st : List Value) (G : mc_H), mc_ev X 146 62 [v0, v1, v2, v3, .int x, v5, v6, v7, v8] st G = mc_ev X 146 64 [v0, v1, v2, v3, .int x, v5, v6, v7, v8] (.int x :: st) G) ∧
  (∀ (a0 : Int32) (r : Nat) (ls st : List Value) (G : mc_H), st.length ≤ 4 → mc_cls G r = some 8 → mc_ev X 146 64 ls (.int a0 :: .ref r :: st) G = (mc_ev X 121 0 [.ref r, .int a0] [] G).bind (fun q => mc_ev X 146 67 ls (q.1.toList ++ st) q.2)) ∧
  (∀ (x y : Int32) (ls st : List Value) (G : mc_H), mc_ev X 146 67 ls (.int y :: .int x :: st) G = if x = y then mc_ev X 146 70 ls st G else mc_ev X 146 74 ls st G) ∧
  (∀ (ls st : List Value) (G : mc_H), mc_ev X 146 70 ls st G = mc_ev X 146 71 ls (.int 1 :: st) G) ∧
  (∀ (ls st : List Value) (G : mc_H), mc_ev X 146 71 ls st G = mc_ev X 146 75 ls st G) ∧
  (∀ (ls st : List Value) (G : mc_H), mc_ev X 146 74 ls st G = mc_ev X 146 75 ls (.int 0 :: st) G) ∧
  (∀ (v0 v1 v2 v3 v4 v5 v6 v7 v8 : Value) (x : Int32) (st : List Value) (G : mc_H), mc_ev X 146 75 [v0, v1, v2, v3, v4, v5, v6, v7, v8] (.int x :: st) G = mc_ev X 146 77 [v0, v1, v2, v3, v4, v5, v6, .int x, v8] st G) ∧
  (∀ (v1 v2 v3 v4 v5 v6 v7 v8 : Value) (x : Nat) (st : List Value) (G : mc_H), mc_ev X 146 77 [.ref x, v1, v2, v3, v4, v5, v6, v7, v8] st G = mc_ev X 146 78 [.ref x, v1, v2, v3, v4, v5, v6, v7, v8] (.ref x :: st) G) ∧
  (∀ (v0 v2 v3 v4 v5 v6 v7 v8 : Value) (x : Int32) (st : List Value) (G : mc_H), mc_ev X 146 78 [v0, .int x, v2, v3, v4, v5, v6, v7, v8] st G = mc_ev X 146 79 [v0, .int x, v2, v3, v4, v5, v6, v7, v8] (.int x :: st) G) ∧
  (∀ (a0 : Int32) (r : Nat) (ls st : List Value) (G : mc_H), st.length ≤ 4 → mc_cls G r = some 8 → mc_ev X 146 79 ls (.int a0 :: .ref r :: st) G = (mc_ev X 126 0 [.ref r, .int a0] [] G).bind (fun q => mc_ev X 146 82 ls (q.1.toList ++ st) q.2)) ∧
  (∀ (v0 v1 v2 v3 v4 v5 v6 v7 v8 : Value) (x : Int32) (st : List Value) (G : mc_H), mc_ev X 146 82 [v0, v1, v2, v3, v4, v5, v6, v7, v8] (.int x :: st) G = mc_ev X 146 84 [v0, v1, v2, v3, v4, v5, v6, v7, .int x] st G) ∧
  (∀ (v0 v1 v3 v4 v5 v6 v7 v8 : Value) (x : Int32) (st : List Value) (G : mc_H), mc_ev X 146 84 [v0, v1, .int x, v3, v4, v5, v6, v7, v8] st G = mc_ev X 146 85 [v0, v1, .int x, v3, v4, v5, v6, v7, v8] (.int x :: st) G) ∧
  (∀ (ls st : List Value) (G : mc_H), mc_ev X 146 85 ls (.int 0 :: st) G = mc_ev X 146 124 ls st G) ∧
  (∀ (ls st : List Value) (G : mc_H), mc_ev X 146 85 ls (.int 1 :: st) G = mc_ev X 146 126 ls st G) ∧
  (∀ (ls st : List Value) (G : mc_H), mc_ev X 146 85 ls (.int 2 :: st) G = mc_ev X 146 129 ls st G) ∧
  (∀ (ls st : List Value) (G : mc_H), mc_ev X 146 85 ls (.int 3 :: st) G = mc_ev X 146 144 ls st G) ∧
  (∀ (ls st : List Value) (G : mc_H), mc_ev X 146 85 ls (.int 4 :: st) G = mc_ev X 146 159 ls st G) ∧
  (∀ (ls st : List Value) (G : mc_H), mc_ev X 146 85 ls (.int 5 :: st) G = mc_ev X 146 170 ls st G) ∧
  (∀ (x : Int32) (ls st : List Value) (G : mc_H), (x.toInt < 0 ∨ 5 < x.toInt) → mc_ev X 146 85 ls (.int x :: st) G = mc_ev X 146 196 ls st G) ∧
  (∀ (v0 v1 v2 v4 v5 v6 v7 v8 : Value) (x : Int32) (st : List Value) (G : mc_H), mc_ev X 146 124 [v0, v1, v2, .int x, v4, v5, v6, v7, v8] st G = mc_ev X 146 125 [v0, v1, v2, .int x, v4, v5, v6, v7, v8] (.int x :: st) G) ∧
  (∀ (v : Int32) (ls : List Value) (G : mc_H), mc_ev X 146 125 ls [.int v] G = some (some (.int v), G)) ∧
  (∀ (v0 v1 v2 v3 v5 v6 v7 v8 : Value) (x : Int32) (st : List Value) (G : mc_H), mc_ev X 146 126 [v0, v1, v2, v3, .int x, v5, v6, v7, v8] st G = mc_ev X 146 128 [v0, v1, v2, v3, .int x, v5, v6, v7, v8] (.int x :: st) G) ∧
  (∀ (v : Int32) (ls : List Value) (G : mc_H), mc_ev X 146 128 ls [.int v] G = some (some (.int v), G)) ∧
  (∀ (v0 v1 v2 v3 v4 v6 v7 v8 : Value) (x : Int32) (st : List Value) (G : mc_H), mc_ev X 146 129 [v0, v1, v2, v3, v4, .int x, v6, v7, v8] st G = mc_ev X 146 131 [v0, v1, v2, v3, v4, .int x, v6, v7, v8] (.int x :: st) G) ∧
  (∀ (v0 v1 v2 v3 v4 v5 v7 v8 : Value) (x : Int32) (st : List Value) (G : mc_H), mc_ev X 146 131 [v0, v1, v2, v3, v4, v5, .int x, v7, v8] st G = mc_ev X 146 133 [v0, v1, v2, v3, v4, v5, .int x, v7, v8] (.int x :: st) G) ∧
  (∀ (x y : Int32) (ls st : List Value) (G : mc_H), mc_ev X 146 133 ls (.int y :: .int x :: st) G = if x < y then mc_ev X 146 136 ls st G else mc_ev X 146 141 ls st G) ∧
  (∀ (v0 v1 v2 v3 v4 v6 v7 v8 : Value) (x : Int32) (st : List Value) (G : mc_H), mc_ev X 146 136 [v0, v1, v2, v3, v4, .int x, v6, v7, v8] st G = mc_ev X 146 138 [v0, v1, v2, v3, v4, .int x, v6, v7, v8] (.int x :: st) G) ∧
  (∀ (ls st : List Value) (G : mc_H), mc_ev X 146 138 ls st G = mc_ev X 146 143 ls st G) ∧
  (∀ (v0 v1 v2 v3 v4 v5 v7 v8 : Value) (x : Int32) (st : List Value) (G : mc_H), mc_ev X 146 141 [v0, v1, v2, v3, v4, v5, .int x, v7, v8] st G = mc_ev X 146 143 [v0, v1, v2, v3, v4, v5, .int x, v7, v8] (.int x :: st) G) ∧
  (∀ (v : Int32) (ls : List Value) (G : mc_H), mc_ev X 146 143 ls [.int v] G = some (some (.int v), G)) ∧
  (∀ (v0 v1 v2 v3 v4 v6 v7 v8 : Value) (x : Int32) (st : List Value) (G : mc_H), mc_ev X 146 144 [v0, v1, v2, v3, v4, .int x, v6, v7, v8] st G = mc_ev X 146 146 [v0, v1, v2, v3, v4, .int x, v6, v7, v8] (.int x :: st) G) ∧
  (∀ (v0 v1 v2 v3 v4 v5 v7 v8 : Value) (x : Int32) (st : List Value) (G : mc_H), mc_ev X 146 146 [v0, v1, v2, v3, v4, v5, .int x, v7, v8] st G = mc_ev X 146 148 [v0, v1, v2, v3, v4, v5, .int x, v7, v8] (.int x :: st) G) ∧
  (∀ (x y : Int32) (ls st : List Value) (G : mc_H), mc_ev X 146 148 ls (.int y :: .int x :: st) G = if x < y then mc_ev X 146 151 ls st G else mc_ev X 146 156 ls st G) ∧
  (∀ (v0 v1 v2 v3 v4 v5 v7 v8 : Value) (x : Int32) (st : List Value) (G : mc_H), mc_ev X 146 151 [v0, v1, v2, v3, v4, v5, .int x, v7, v8] st G = mc_ev X 146 153 [v0, v1, v2, v3, v4, v5, .int x, v7, v8] (.int x :: st) G) ∧
  (∀ (ls st : List Value) (G : mc_H), mc_ev X 146 153 ls st G = mc_ev X 146 158 ls st G) ∧
  (∀ (v0 v1 v2 v3 v4 v6 v7 v8 : Value) (x : Int32) (st : List Value) (G : mc_H), mc_ev X 146 156 [v0, v1, v2, v3, v4, .int x, v6, v7, v8] st G = mc_ev X 146 158 [v0, v1, v2, v3, v4, .int x, v6, v7, v8] (.int x :: st) G) ∧
  (∀ (v : Int32) (ls : List Value) (G : mc_H), mc_ev X 146 158 ls [.int v] G = some (some (.int v), G)) ∧
  (∀ (v1 v2 v3 v4 v5 v6 v7 v8 : Value) (x : Nat) (st : List Value) (G : mc_H), mc_ev X 146 159 [.ref x, v1, v2, v3, v4, v5, v6, v7, v8] st G = mc_ev X 146 160 [.ref x, v1, v2, v3, v4, v5, v6, v7, v8] (.ref x :: st) G) ∧
  (∀ (r : Nat) (ls st : List Value) (G : mc_H), mc_ev X 146 160 ls (.ref r :: st) G = (mc_getf G r 8 9).bind (fun v => mc_ev X 146 163 ls (v :: st) G)) ∧
  (∀ (v0 v2 v3 v4 v5 v6 v7 v8 : Value) (x : Int32) (st : List Value) (G : mc_H), mc_ev X 146 163 [v0, .int x, v2, v3, v4, v5, v6, v7, v8] st G = mc_ev X 146 164 [v0, .int x, v2, v3, v4, v5, v6, v7, v8] (.int x :: st) G) ∧
  (∀ (i : Int32) (r : Value) (ls st : List Value) (G : mc_H), mc_ev X 146 164 ls (.int i :: r :: st) G = (mc_getA X G 0 r i).bind (fun x => mc_ev X 146 165 ls (.int x :: st) G)) ∧
  (∀ (ls st : List Value) (G : mc_H), mc_ev X 146 165 ls st G = mc_ev X 146 168 ls (.int 1000 :: st) G) ∧
  (∀ (x y : Int32) (ls st : List Value) (G : mc_H), mc_ev X 146 168 ls (.int y :: .int x :: st) G = mc_ev X 146 169 ls (.int (x + y) :: st) G) ∧
  (∀ (v : Int32) (ls : List Value) (G : mc_H), mc_ev X 146 169 ls [.int v] G = some (some (.int v), G)) ∧
  (∀ (v0 v1 v2 v3 v4 v5 v6 v7 : Value) (x : Int32) (st : List Value) (G : mc_H), mc_ev X 146 170 [v0, v1, v2, v3, v4, v5, v6, v7, .int x] st G = mc_ev X 146 172 [v0, v1, v2, v3, v4, v5, v6, v7, .int x] (.int x :: st) G) ∧
  (∀ (x : Int32) (ls st : List Value) (G : mc_H), mc_ev X 146 172 ls (.int x :: st) G = if 0 < x then mc_ev X 146 175 ls st G else mc_ev X 146 180 ls st G) ∧
  (∀ (v0 v1 v2 v3 v4 v5 v6 v8 : Value) (x : Int32) (st : List Value) (G : mc_H), mc_ev X 146 175 [v0, v1, v2, v3, v4, v5, v6, .int x, v8] st G = mc_ev X 146 177 [v0, v1, v2, v3, v4, v5, v6, .int x, v8] (.int x :: st) G) ∧
  (∀ (x : Int32) (ls st : List Value) (G : mc_H), mc_ev X 146 177 ls (.int x :: st) G = if x = 0 then mc_ev X 146 190 ls st G else mc_ev X 146 180 ls st G) ∧
  (∀ (v0 v1 v2 v3 v4 v5 v6 v7 : Value) (x : Int32) (st : List Value) (G : mc_H), mc_ev X 146 180 [v0, v1, v2, v3, v4, v5, v6, v7, .int x] st G = mc_ev X 146 182 [v0, v1, v2, v3, v4, v5, v6, v7, .int x] (.int x :: st) G) ∧
  (∀ (x : Int32) (ls st : List Value) (G : mc_H), mc_ev X 146 182 ls (.int x :: st) G = if x < 0 then mc_ev X 146 185 ls st G else mc_ev X 146 194 ls st G) ∧
  (∀ (v0 v1 v2 v3 v4 v5 v6 v8 : Value) (x : Int32) (st : List Value) (G : mc_H), mc_ev X 146 185 [v0, v1, v2, v3, v4, v5, v6, .int x, v8] st G = mc_ev X 146 187 [v0, v1, v2, v3, v4, v5, v6, .int x, v8] (.int x :: st) G) ∧
  (∀ (x : Int32) (ls st : List Value) (G : mc_H), mc_ev X 146 187 ls (.int x :: st) G = if x = 0 then mc_ev X 146 194 ls st G else mc_ev X 146 190 ls st G) ∧
  (∀ (ls st : List Value) (G : mc_H), mc_ev X 146 190 ls st G = mc_ev X 146 191 ls (.int 1 :: st) G) ∧
  (∀ (ls st : List Value) (G : mc_H), mc_ev X 146 191 ls st G = mc_ev X 146 195 ls st G) ∧
  (∀ (ls st : List Value) (G : mc_H), mc_ev X 146 194 ls st G = mc_ev X 146 195 ls (.int 0 :: st) G) ∧
  (∀ (v : Int32) (ls : List Value) (G : mc_H), mc_ev X 146 195 ls [.int v] G = some (some (.int v), G)) ∧
  (∀ (v1 v2 v3 v4 v5 v6 v7 v8 : Value) (x : Nat) (st : List Value) (G : mc_H), mc_ev X 146 196 [.ref x, v1, v2, v3, v4, v5, v6, v7, v8] st G = mc_ev X 146 197 [.ref x, v1, v2, v3, v4, v5, v6, v7, v8] (.ref x :: st) G) ∧
  (∀ (v0 v2 v3 v4 v5 v6 v7 v8 : Value) (x : Int32) (st : List Value) (G : mc_H), mc_ev X 146 197 [v0, .int x, v2, v3, v4, v5, v6, v7, v8] st G = mc_ev X 146 198 [v0, .int x, v2, v3, v4, v5, v6, v7, v8] (.int x :: st) G) ∧
  (∀ (a0 : Int32) (r : Nat) (ls st : List Value) (G : mc_H), st.length ≤ 4 → mc_cls G r = some 8 → mc_ev X 146 198 ls (.int a0 :: .ref r :: st) G = (mc_ev X 127 0 [.ref r, .int a0, .null] [] G).bind (fun q => mc_ev X 146 201 ls (q.1.toList ++ st) q.2)) ∧
  (∀ (v : Int32) (ls : List Value) (G : mc_H), mc_ev X 146 201 ls [.int v] G = some (some (.int v), G)) := ⟨fun v1 v2 v3 v4 v5 v6 v7 v8 x st G => ev_aload_n rfl rfl,
  fun ls st G => ev_iconst rfl rfl,
  fun v r ls st G => ev_putfield rfl,
  fun v1 v2 v3 v4 v5 v6 v7 v8 x st G => ev_aload_n rfl rfl,
  fun v0 v2 v3 v4 v5 v6 v7 v8 x st G => ev_iload_n rfl rfl,
  fun a0 r ls st G hr hG => ev_virt (As := [.int a0]) rfl rfl rfl rfl rfl rfl hr hG,
  fun x ls st G => ev_br rfl rfl,
  fun v0 v1 v3 v4 v5 v6 v7 v8 x st G => ev_iload_n rfl rfl,
  fun ls st G => ev_iconst rfl rfl,
  fun ls st G => ev_bipush rfl rfl,
  fun a0 a1 a2 ls st G hr => ev_stat (As := [.int a0, .int a1, .int a2]) rfl (by decide) rfl rfl rfl rfl hr,
  fun x ls st G => ev_br rfl rfl,
  fun ls st G => ev_iconst rfl rfl,
  fun v ls G => ev_ireturn rfl rfl,
  fun v1 v2 v3 v4 v5 v6 v7 v8 x st G => ev_aload_n rfl rfl,
  fun v0 v2 v3 v4 v5 v6 v7 v8 x st G => ev_iload_n rfl rfl,
  fun ls st G => ev_iconst rfl rfl,
  fun a0 a1 r ls st G hr hG => ev_virt (As := [.int a0, .int a1]) rfl rfl rfl rfl rfl rfl hr hG,
  fun v0 v1 v2 v3 v4 v5 v6 v7 v8 x st G => ev_istore_n (X := X) (k := 146) (pc := 31) (ls := [v0, v1, v2, v3, v4, v5, v6, v7, v8]) (st := st) (G := G) (j := 3) (x := x) rfl (Nat.le_of_ble_eq_true rfl),
  fun v1 v2 v3 v4 v5 v6 v7 v8 x st G => ev_aload_n rfl rfl,
  fun v0 v2 v3 v4 v5 v6 v7 v8 x st G => ev_iload_n rfl rfl,
  fun ls st G => ev_iconst rfl rfl,
  fun a0 a1 r ls st G hr hG => ev_virt (As := [.int a0, .int a1]) rfl rfl rfl rfl rfl rfl hr hG,
  fun v0 v1 v2 v3 v4 v5 v6 v7 v8 x st G => ev_istore (X := X) (k := 146) (pc := 38) (ls := [v0, v1, v2, v3, v4, v5, v6, v7, v8]) (st := st) (G := G) (j := 4) (x := x) rfl (Nat.le_of_ble_eq_true rfl),
  fun v1 v2 v3 v4 v5 v6 v7 v8 x st G => ev_aload_n rfl rfl,
  fun v0 v2 v3 v4 v5 v6 v7 v8 x st G => ev_iload_n rfl rfl,
  fun ls st G => ev_iconst rfl rfl,
  fun a0 a1 r ls st G hr hG => ev_virt (As := [.int a0, .int a1]) rfl rfl rfl rfl rfl rfl hr hG,
  fun v0 v1 v2 v3 v4 v5 v6 v7 v8 x st G => ev_istore (X := X) (k := 146) (pc := 46) (ls := [v0, v1, v2, v3, v4, v5, v6, v7, v8]) (st := st) (G := G) (j := 5) (x := x) rfl (Nat.le_of_ble_eq_true rfl),
  fun v1 v2 v3 v4 v5 v6 v7 v8 x st G => ev_aload_n rfl rfl,
  fun v0 v2 v3 v4 v5 v6 v7 v8 x st G => ev_iload_n rfl rfl,
  fun ls st G => ev_iconst rfl rfl,
  fun a0 a1 r ls st G hr hG => ev_virt (As := [.int a0, .int a1]) rfl rfl rfl rfl rfl rfl hr hG,
  fun v0 v1 v2 v3 v4 v5 v6 v7 v8 x st G => ev_istore (X := X) (k := 146) (pc := 54) (ls := [v0, v1, v2, v3, v4, v5, v6, v7, v8]) (st := st) (G := G) (j := 6) (x := x) rfl (Nat.le_of_ble_eq_true rfl),
  fun v1 v2 v3 v4 v5 v6 v7 v8 x st G => ev_aload_n rfl rfl,
  fun v0 v1 v2 v4 v5 v6 v7 v8 x st G => ev_iload_n rfl rfl,
  fun a0 r ls st G hr hG => ev_virt (As := [.int a0]) rfl rfl rfl rfl rfl rfl hr hG,
  fun v1 v2 v3 v4 v5 v6 v7 v8 x st G => ev_aload_n rfl rfl,
  fun v0 v1 v2 v3 v5 v6 v7 v8 x st G => ev_iload rfl rfl,
  fun a0 r ls st G hr hG => ev_virt (As := [.int a0]) rfl rfl rfl rfl rfl rfl hr hG,
  fun x y ls st G => ev_br rfl rfl,
  fun ls st G => ev_iconst rfl rfl,
  fun ls st G => ev_goto rfl rfl,
  fun ls st G => ev_iconst rfl rfl,
  fun v0 v1 v2 v3 v4 v5 v6 v7 v8 x st G => ev_istore (X := X) (k := 146) (pc := 75) (ls := [v0, v1, v2, v3, v4, v5, v6, v7, v8]) (st := st) (G := G) (j := 7) (x := x) rfl (Nat.le_of_ble_eq_true rfl),
  fun v1 v2 v3 v4 v5 v6 v7 v8 x st G => ev_aload_n rfl rfl,
  fun v0 v2 v3 v4 v5 v6 v7 v8 x st G => ev_iload_n rfl rfl,
  fun a0 r ls st G hr hG => ev_virt (As := [.int a0]) rfl rfl rfl rfl rfl rfl hr hG,
  fun v0 v1 v2 v3 v4 v5 v6 v7 v8 x st G => ev_istore (X := X) (k := 146) (pc := 82) (ls := [v0, v1, v2, v3, v4, v5, v6, v7, v8]) (st := st) (G := G) (j := 8) (x := x) rfl (Nat.le_of_ble_eq_true rfl),
  fun v0 v1 v3 v4 v5 v6 v7 v8 x st G => ev_iload_n rfl rfl,
  fun ls st G => ev_tabIn rfl (by decide) rfl (by decide) rfl,
  fun ls st G => ev_tabIn rfl (by decide) rfl (by decide) rfl,
  fun ls st G => ev_tabIn rfl (by decide) rfl (by decide) rfl,
  fun ls st G => ev_tabIn rfl (by decide) rfl (by decide) rfl,
  fun ls st G => ev_tabIn rfl (by decide) rfl (by decide) rfl,
  fun ls st G => ev_tabIn rfl (by decide) rfl (by decide) rfl,
  fun x ls st G hx => ev_tabOut rfl rfl hx,
  fun v0 v1 v2 v4 v5 v6 v7 v8 x st G => ev_iload_n rfl rfl,
  fun v ls G => ev_ireturn rfl rfl,
  fun v0 v1 v2 v3 v5 v6 v7 v8 x st G => ev_iload rfl rfl,
  fun v ls G => ev_ireturn rfl rfl,
  fun v0 v1 v2 v3 v4 v6 v7 v8 x st G => ev_iload rfl rfl,
  fun v0 v1 v2 v3 v4 v5 v7 v8 x st G => ev_iload rfl rfl,
  fun x y ls st G => ev_br rfl rfl,
  fun v0 v1 v2 v3 v4 v6 v7 v8 x st G => ev_iload rfl rfl,
  fun ls st G => ev_goto rfl rfl,
  fun v0 v1 v2 v3 v4 v5 v7 v8 x st G => ev_iload rfl rfl,
  fun v ls G => ev_ireturn rfl rfl,
  fun v0 v1 v2 v3 v4 v6 v7 v8 x st G => ev_iload rfl rfl,
  fun v0 v1 v2 v3 v4 v5 v7 v8 x st G => ev_iload rfl rfl,
  fun x y ls st G => ev_br rfl rfl,
  fun v0 v1 v2 v3 v4 v5 v7 v8 x st G => ev_iload rfl rfl,
  fun ls st G => ev_goto rfl rfl,
  fun v0 v1 v2 v3 v4 v6 v7 v8 x st G => ev_iload rfl rfl,
  fun v ls G => ev_ireturn rfl rfl,
  fun v1 v2 v3 v4 v5 v6 v7 v8 x st G => ev_aload_n rfl rfl,
  fun r ls st G => ev_getfield rfl,
  fun v0 v2 v3 v4 v5 v6 v7 v8 x st G => ev_iload_n rfl rfl,
  fun i r ls st G => ev_iaload rfl,
  fun ls st G => ev_sipush rfl rfl,
  fun x y ls st G => ev_iadd rfl,
  fun v ls G => ev_ireturn rfl rfl,
  fun v0 v1 v2 v3 v4 v5 v6 v7 x st G => ev_iload rfl rfl,
  fun x ls st G => ev_br rfl rfl,
  fun v0 v1 v2 v3 v4 v5 v6 v8 x st G => ev_iload rfl rfl,
  fun x ls st G => ev_br rfl rfl,
  fun v0 v1 v2 v3 v4 v5 v6 v7 x st G => ev_iload rfl rfl,
  fun x ls st G => ev_br rfl rfl,
  fun v0 v1 v2 v3 v4 v5 v6 v8 x st G => ev_iload rfl rfl,
  fun x ls st G => ev_br rfl rfl,
  fun ls st G => ev_iconst rfl rfl,
  fun ls st G => ev_goto rfl rfl,
  fun ls st G => ev_iconst rfl rfl,
  fun v ls G => ev_ireturn rfl rfl,
  fun v1 v2 v3 v4 v5 v6 v7 v8 x st G => ev_aload_n rfl rfl,
  fun v0 v2 v3 v4 v5 v6 v7 v8 x st G => ev_iload_n rfl rfl,
  fun a0 r ls st G hr hG => ev_virt (As := [.int a0]) rfl rfl rfl rfl rfl rfl hr hG,
  fun v ls G => ev_ireturn rfl rfl⟩
set_option maxRecDepth 100000 in
theorem e_147 {X : mc_X} : (∀ (x : Nat) (st : List Value) (G : mc_H), mc_ev X 147 0 [.ref x] st G = mc_ev X 147 1 [.ref x] (.ref x :: st) G) ∧
  (∀ (ls st : List Value) (G : mc_H), mc_ev X 147 1 ls st G = mc_ev X 147 2 ls (.int 0 :: st) G) ∧
  (∀ (v : Value) (r : Nat) (ls st : List Value) (G : mc_H), mc_ev X 147 2 ls (v :: .ref r :: st) G = (mc_setf G r 8 0 v).bind (fun G' => mc_ev X 147 5 ls st G')) ∧
  (∀ (x : Nat) (st : List Value) (G : mc_H), mc_ev X 147 5 [.ref x] st G = mc_ev X 147 6 [.ref x] (.ref x :: st) G) ∧
  (∀ (x : Nat) (st : List Value) (G : mc_H), mc_ev X 147 6 [.ref x] st G = mc_ev X 147 7 [.ref x] (.ref x :: st) G) ∧
  (∀ (r : Nat) (ls st : List Value) (G : mc_H), st.length ≤ 4 → mc_cls G r = some 8 → mc_ev X 147 7 ls (.ref r :: st) G = (mc_ev X 130 0 [.ref r, .null, .null] [] G).bind (fun q => mc_ev X 147 10 ls (q.1.toList ++ st) q.2)) ∧
  (∀ (a0 : Int32) (r : Nat) (ls st : List Value) (G : mc_H), st.length ≤ 4 → mc_cls G r = some 8 → mc_ev X 147 10 ls (.int a0 :: .ref r :: st) G = (mc_ev X 129 0 [.ref r, .int a0, .null, .null, .null, .null, .null] [] G).bind (fun q => mc_ev X 147 13 ls (q.1.toList ++ st) q.2)) ∧
  (∀ (v : Int32) (ls : List Value) (G : mc_H), mc_ev X 147 13 ls [.int v] G = some (some (.int v), G)) := ⟨fun  x st G => ev_aload_n rfl rfl,
  fun ls st G => ev_iconst rfl rfl,
  fun v r ls st G => ev_putfield rfl,
  fun  x st G => ev_aload_n rfl rfl,
  fun  x st G => ev_aload_n rfl rfl,
  fun r ls st G hr hG => ev_virt (As := []) rfl rfl rfl rfl rfl rfl hr hG,
  fun a0 r ls st G hr hG => ev_virt (As := [.int a0]) rfl rfl rfl rfl rfl rfl hr hG,
  fun v ls G => ev_ireturn rfl rfl⟩
set_option maxRecDepth 100000 in
theorem h_148_4 {X : mc_X} : ∀ (v0 v1 v2 : Value) (x : Int32) (st : List Value) (G : mc_H), mc_ev X 148 4 [v0, v1, v2, .int x] st G = mc_ev X 148 5 [v0, v1, v2, .int x] (.int x :: st) G := fun v0 v1 v2 x st G => ev_iload_n rfl rfl
set_option maxRecDepth 100000 in
theorem e_148 {X : mc_X} : (∀ (ls st : List Value) (G : mc_H), mc_ev X 148 0 ls st G = mc_ev X 148 1 ls (.int 0 :: st) G) ∧
  (∀ (v0 v1 v2 v3 : Value) (x : Int32) (st : List Value) (G : mc_H), mc_ev X 148 1 [v0, v1, v2, v3] (.int x :: st) G = mc_ev X 148 2 [v0, v1, .int x, v3] st G) ∧
  (∀ (ls st : List Value) (G : mc_H), mc_ev X 148 2 ls st G = mc_ev X 148 3 ls (.int 0 :: st) G) ∧
  (∀ (v0 v1 v2 v3 : Value) (x : Int32) (st : List Value) (G : mc_H), mc_ev X 148 3 [v0, v1, v2, v3] (.int x :: st) G = mc_ev X 148 4 [v0, v1, v2, .int x] st G) ∧
  (∀ (v1 v2 v3 : Value) (x : Nat) (st : List Value) (G : mc_H), mc_ev X 148 5 [.ref x, v1, v2, v3] st G = mc_ev X 148 6 [.ref x, v1, v2, v3] (.ref x :: st) G) ∧
  (∀ (r : Nat) (ls st : List Value) (G : mc_H), st.length ≤ 4 → mc_cls G r = some 8 → mc_ev X 148 6 ls (.ref r :: st) G = (mc_ev X 115 0 [.ref r] [] G).bind (fun q => mc_ev X 148 9 ls (q.1.toList ++ st) q.2)) ∧
  (∀ (x y : Int32) (ls st : List Value) (G : mc_H), mc_ev X 148 9 ls (.int y :: .int x :: st) G = if x < y then mc_ev X 148 12 ls st G else mc_ev X 148 62 ls st G) ∧
  (∀ (v1 v2 v3 : Value) (x : Nat) (st : List Value) (G : mc_H), mc_ev X 148 12 [.ref x, v1, v2, v3] st G = mc_ev X 148 13 [.ref x, v1, v2, v3] (.ref x :: st) G) ∧
  (∀ (v0 v1 v2 : Value) (x : Int32) (st : List Value) (G : mc_H), mc_ev X 148 13 [v0, v1, v2, .int x] st G = mc_ev X 148 14 [v0, v1, v2, .int x] (.int x :: st) G) ∧
  (∀ (a0 : Int32) (r : Nat) (ls st : List Value) (G : mc_H), st.length ≤ 4 → mc_cls G r = some 8 → mc_ev X 148 14 ls (.int a0 :: .ref r :: st) G = (mc_ev X 126 0 [.ref r, .int a0] [] G).bind (fun q => mc_ev X 148 17 ls (q.1.toList ++ st) q.2)) ∧
  (∀ (x : Int32) (ls st : List Value) (G : mc_H), mc_ev X 148 17 ls (.int x :: st) G = if x < 0 then mc_ev X 148 20 ls st G else mc_ev X 148 56 ls st G) ∧
  (∀ (v0 v1 v3 : Value) (x : Int32) (st : List Value) (G : mc_H), mc_ev X 148 20 [v0, v1, .int x, v3] st G = mc_ev X 148 21 [v0, v1, .int x, v3] (.int x :: st) G) ∧
  (∀ (v1 v2 v3 : Value) (x : Nat) (st : List Value) (G : mc_H), mc_ev X 148 21 [.ref x, v1, v2, v3] st G = mc_ev X 148 22 [.ref x, v1, v2, v3] (.ref x :: st) G) ∧
  (∀ (v0 v1 v2 : Value) (x : Int32) (st : List Value) (G : mc_H), mc_ev X 148 22 [v0, v1, v2, .int x] st G = mc_ev X 148 23 [v0, v1, v2, .int x] (.int x :: st) G) ∧
  (∀ (ls st : List Value) (G : mc_H), mc_ev X 148 23 ls st G = mc_ev X 148 24 ls (.int 0 :: st) G) ∧
  (∀ (a0 : Int32) (a1 : Int32) (r : Nat) (ls st : List Value) (G : mc_H), st.length ≤ 4 → mc_cls G r = some 8 → mc_ev X 148 24 ls (.int a1 :: .int a0 :: .ref r :: st) G = (mc_ev X 125 0 [.ref r, .int a0, .int a1, .null, .null, .null] [] G).bind (fun q => mc_ev X 148 27 ls (q.1.toList ++ st) q.2)) ∧
  (∀ (v0 v2 v3 : Value) (x : Int32) (st : List Value) (G : mc_H), mc_ev X 148 27 [v0, .int x, v2, v3] st G = mc_ev X 148 28 [v0, .int x, v2, v3] (.int x :: st) G) ∧
  (∀ (x y : Int32) (ls st : List Value) (G : mc_H), mc_ev X 148 28 ls (.int y :: .int x :: st) G = if x = y then mc_ev X 148 31 ls st G else mc_ev X 148 35 ls st G) ∧
  (∀ (ls st : List Value) (G : mc_H), mc_ev X 148 31 ls st G = mc_ev X 148 32 ls (.int 1 :: st) G) ∧
  (∀ (ls st : List Value) (G : mc_H), mc_ev X 148 32 ls st G = mc_ev X 148 36 ls st G) ∧
  (∀ (ls st : List Value) (G : mc_H), mc_ev X 148 35 ls st G = mc_ev X 148 36 ls (.int 0 :: st) G) ∧
  (∀ (x y : Int32) (ls st : List Value) (G : mc_H), mc_ev X 148 36 ls (.int y :: .int x :: st) G = mc_ev X 148 37 ls (.int (x + y) :: st) G) ∧
  (∀ (v0 v1 v2 v3 : Value) (x : Int32) (st : List Value) (G : mc_H), mc_ev X 148 37 [v0, v1, v2, v3] (.int x :: st) G = mc_ev X 148 38 [v0, v1, .int x, v3] st G) ∧
  (∀ (v0 v1 v3 : Value) (x : Int32) (st : List Value) (G : mc_H), mc_ev X 148 38 [v0, v1, .int x, v3] st G = mc_ev X 148 39 [v0, v1, .int x, v3] (.int x :: st) G) ∧
  (∀ (v1 v2 v3 : Value) (x : Nat) (st : List Value) (G : mc_H), mc_ev X 148 39 [.ref x, v1, v2, v3] st G = mc_ev X 148 40 [.ref x, v1, v2, v3] (.ref x :: st) G) ∧
  (∀ (v0 v1 v2 : Value) (x : Int32) (st : List Value) (G : mc_H), mc_ev X 148 40 [v0, v1, v2, .int x] st G = mc_ev X 148 41 [v0, v1, v2, .int x] (.int x :: st) G) ∧
  (∀ (ls st : List Value) (G : mc_H), mc_ev X 148 41 ls st G = mc_ev X 148 42 ls (.int 1 :: st) G) ∧
  (∀ (a0 : Int32) (a1 : Int32) (r : Nat) (ls st : List Value) (G : mc_H), st.length ≤ 4 → mc_cls G r = some 8 → mc_ev X 148 42 ls (.int a1 :: .int a0 :: .ref r :: st) G = (mc_ev X 125 0 [.ref r, .int a0, .int a1, .null, .null, .null] [] G).bind (fun q => mc_ev X 148 45 ls (q.1.toList ++ st) q.2)) ∧
  (∀ (v0 v2 v3 : Value) (x : Int32) (st : List Value) (G : mc_H), mc_ev X 148 45 [v0, .int x, v2, v3] st G = mc_ev X 148 46 [v0, .int x, v2, v3] (.int x :: st) G) ∧
  (∀ (x y : Int32) (ls st : List Value) (G : mc_H), mc_ev X 148 46 ls (.int y :: .int x :: st) G = if x = y then mc_ev X 148 49 ls st G else mc_ev X 148 53 ls st G) ∧
  (∀ (ls st : List Value) (G : mc_H), mc_ev X 148 49 ls st G = mc_ev X 148 50 ls (.int 1 :: st) G) ∧
  (∀ (ls st : List Value) (G : mc_H), mc_ev X 148 50 ls st G = mc_ev X 148 54 ls st G) ∧
  (∀ (ls st : List Value) (G : mc_H), mc_ev X 148 53 ls st G = mc_ev X 148 54 ls (.int 0 :: st) G) ∧
  (∀ (x y : Int32) (ls st : List Value) (G : mc_H), mc_ev X 148 54 ls (.int y :: .int x :: st) G = mc_ev X 148 55 ls (.int (x + y) :: st) G) ∧
  (∀ (v0 v1 v2 v3 : Value) (x : Int32) (st : List Value) (G : mc_H), mc_ev X 148 55 [v0, v1, v2, v3] (.int x :: st) G = mc_ev X 148 56 [v0, v1, .int x, v3] st G) ∧
  (∀ (v0 v1 v2 : Value) (x : Int32) (st : List Value) (G : mc_H), mc_ev X 148 56 [v0, v1, v2, .int x] st G = mc_ev X 148 59 [v0, v1, v2, .int (x + 1)] st G) ∧
  (∀ (ls st : List Value) (G : mc_H), mc_ev X 148 59 ls st G = mc_ev X 148 4 ls st G) ∧
  (∀ (v0 v1 v3 : Value) (x : Int32) (st : List Value) (G : mc_H), mc_ev X 148 62 [v0, v1, .int x, v3] st G = mc_ev X 148 63 [v0, v1, .int x, v3] (.int x :: st) G) ∧
  (∀ (ls st : List Value) (G : mc_H), mc_ev X 148 63 ls st G = mc_ev X 148 64 ls (.int 2 :: st) G) ∧
  (∀ (x y : Int32) (ls st : List Value) (G : mc_H), mc_ev X 148 64 ls (.int y :: .int x :: st) G = if y = 0 then none else mc_ev X 148 65 ls (.int (x - x / y * y) :: st) G) ∧
  (∀ (ls st : List Value) (G : mc_H), mc_ev X 148 65 ls st G = mc_ev X 148 66 ls (.int 1 :: st) G) ∧
  (∀ (x y : Int32) (ls st : List Value) (G : mc_H), mc_ev X 148 66 ls (.int y :: .int x :: st) G = if x = y then mc_ev X 148 69 ls st G else mc_ev X 148 73 ls st G) ∧
  (∀ (ls st : List Value) (G : mc_H), mc_ev X 148 69 ls st G = mc_ev X 148 70 ls (.int 1 :: st) G) ∧
  (∀ (ls st : List Value) (G : mc_H), mc_ev X 148 70 ls st G = mc_ev X 148 74 ls st G) ∧
  (∀ (ls st : List Value) (G : mc_H), mc_ev X 148 73 ls st G = mc_ev X 148 74 ls (.int 0 :: st) G) ∧
  (∀ (v : Int32) (ls : List Value) (G : mc_H), (v = 0 ∨ v = 1) → mc_ev X 148 74 ls [.int v] G = some (some (.int v), G)) := ⟨fun ls st G => ev_iconst rfl rfl,
  fun v0 v1 v2 v3 x st G => ev_istore_n (X := X) (k := 148) (pc := 1) (ls := [v0, v1, v2, v3]) (st := st) (G := G) (j := 2) (x := x) rfl (Nat.le_of_ble_eq_true rfl),
  fun ls st G => ev_iconst rfl rfl,
  fun v0 v1 v2 v3 x st G => ev_istore_n (X := X) (k := 148) (pc := 3) (ls := [v0, v1, v2, v3]) (st := st) (G := G) (j := 3) (x := x) rfl (Nat.le_of_ble_eq_true rfl),
  fun v1 v2 v3 x st G => ev_aload_n rfl rfl,
  fun r ls st G hr hG => ev_virt (As := []) rfl rfl rfl rfl rfl rfl hr hG,
  fun x y ls st G => ev_br rfl rfl,
  fun v1 v2 v3 x st G => ev_aload_n rfl rfl,
  fun v0 v1 v2 x st G => ev_iload_n rfl rfl,
  fun a0 r ls st G hr hG => ev_virt (As := [.int a0]) rfl rfl rfl rfl rfl rfl hr hG,
  fun x ls st G => ev_br rfl rfl,
  fun v0 v1 v3 x st G => ev_iload_n rfl rfl,
  fun v1 v2 v3 x st G => ev_aload_n rfl rfl,
  fun v0 v1 v2 x st G => ev_iload_n rfl rfl,
  fun ls st G => ev_iconst rfl rfl,
  fun a0 a1 r ls st G hr hG => ev_virt (As := [.int a0, .int a1]) rfl rfl rfl rfl rfl rfl hr hG,
  fun v0 v2 v3 x st G => ev_iload_n rfl rfl,
  fun x y ls st G => ev_br rfl rfl,
  fun ls st G => ev_iconst rfl rfl,
  fun ls st G => ev_goto rfl rfl,
  fun ls st G => ev_iconst rfl rfl,
  fun x y ls st G => ev_iadd rfl,
  fun v0 v1 v2 v3 x st G => ev_istore_n (X := X) (k := 148) (pc := 37) (ls := [v0, v1, v2, v3]) (st := st) (G := G) (j := 2) (x := x) rfl (Nat.le_of_ble_eq_true rfl),
  fun v0 v1 v3 x st G => ev_iload_n rfl rfl,
  fun v1 v2 v3 x st G => ev_aload_n rfl rfl,
  fun v0 v1 v2 x st G => ev_iload_n rfl rfl,
  fun ls st G => ev_iconst rfl rfl,
  fun a0 a1 r ls st G hr hG => ev_virt (As := [.int a0, .int a1]) rfl rfl rfl rfl rfl rfl hr hG,
  fun v0 v2 v3 x st G => ev_iload_n rfl rfl,
  fun x y ls st G => ev_br rfl rfl,
  fun ls st G => ev_iconst rfl rfl,
  fun ls st G => ev_goto rfl rfl,
  fun ls st G => ev_iconst rfl rfl,
  fun x y ls st G => ev_iadd rfl,
  fun v0 v1 v2 v3 x st G => ev_istore_n (X := X) (k := 148) (pc := 55) (ls := [v0, v1, v2, v3]) (st := st) (G := G) (j := 2) (x := x) rfl (Nat.le_of_ble_eq_true rfl),
  fun v0 v1 v2 x st G => ev_iinc (X := X) (k := 148) (pc := 56) (ls := [v0, v1, v2, .int x]) (st := st) (G := G) (j := 3) (n := 1) (x := x) (v := 1) rfl rfl rfl,
  fun ls st G => ev_goto rfl rfl,
  fun v0 v1 v3 x st G => ev_iload_n rfl rfl,
  fun ls st G => ev_iconst rfl rfl,
  fun x y ls st G => ev_irem rfl,
  fun ls st G => ev_iconst rfl rfl,
  fun x y ls st G => ev_br rfl rfl,
  fun ls st G => ev_iconst rfl rfl,
  fun ls st G => ev_goto rfl rfl,
  fun ls st G => ev_iconst rfl rfl,
  fun v ls G hv => ev_zreturn rfl rfl hv⟩
set_option maxRecDepth 100000 in
theorem e_149 {X : mc_X} : (∀ (v1 : Value) (x : Nat) (st : List Value) (G : mc_H), mc_ev X 149 0 [.ref x, v1] st G = mc_ev X 149 1 [.ref x, v1] (.ref x :: st) G) ∧
  (∀ (ls st : List Value) (G : mc_H), mc_ev X 149 1 ls st G = mc_ev X 149 2 ls (.int 0 :: st) G) ∧
  (∀ (v : Value) (r : Nat) (ls st : List Value) (G : mc_H), mc_ev X 149 2 ls (v :: .ref r :: st) G = (mc_setf G r 8 0 v).bind (fun G' => mc_ev X 149 5 ls st G')) ∧
  (∀ (v0 : Value) (x : Int32) (st : List Value) (G : mc_H), mc_ev X 149 5 [v0, .int x] st G = mc_ev X 149 6 [v0, .int x] (.int x :: st) G) ∧
  (∀ (ls st : List Value) (G : mc_H), mc_ev X 149 6 ls st G = mc_ev X 149 7 ls (.int 0 :: st) G) ∧
  (∀ (v1 : Value) (x : Nat) (st : List Value) (G : mc_H), mc_ev X 149 7 [.ref x, v1] st G = mc_ev X 149 8 [.ref x, v1] (.ref x :: st) G) ∧
  (∀ (r : Nat) (ls st : List Value) (G : mc_H), st.length ≤ 4 → mc_cls G r = some 8 → mc_ev X 149 8 ls (.ref r :: st) G = (mc_ev X 116 0 [.ref r] [] G).bind (fun q => mc_ev X 149 11 ls (q.1.toList ++ st) q.2)) ∧
  (∀ (ls st : List Value) (G : mc_H), mc_ev X 149 11 ls st G = mc_ev X 149 12 ls (.int 1 :: st) G) ∧
  (∀ (x y : Int32) (ls st : List Value) (G : mc_H), mc_ev X 149 12 ls (.int y :: .int x :: st) G = mc_ev X 149 13 ls (.int (x - y) :: st) G) ∧
  (∀ (a0 : Int32) (a1 : Int32) (a2 : Int32) (ls st : List Value) (G : mc_H), st.length ≤ 4 → mc_ev X 149 13 ls (.int a2 :: .int a1 :: .int a0 :: st) G = (mc_ev X 112 0 [.int a0, .int a1, .int a2] [] G).bind (fun q => mc_ev X 149 16 ls (q.1.toList ++ st) q.2)) ∧
  (∀ (x : Int32) (ls st : List Value) (G : mc_H), mc_ev X 149 16 ls (.int x :: st) G = if x = 0 then mc_ev X 149 19 ls st G else mc_ev X 149 23 ls st G) ∧
  (∀ (ls st : List Value) (G : mc_H), mc_ev X 149 19 ls st G = mc_ev X 149 20 ls (.int (-1) :: st) G) ∧
  (∀ (ls st : List Value) (G : mc_H), mc_ev X 149 20 ls st G = mc_ev X 149 36 ls st G) ∧
  (∀ (v1 : Value) (x : Nat) (st : List Value) (G : mc_H), mc_ev X 149 23 [.ref x, v1] st G = mc_ev X 149 24 [.ref x, v1] (.ref x :: st) G) ∧
  (∀ (v0 : Value) (x : Int32) (st : List Value) (G : mc_H), mc_ev X 149 24 [v0, .int x] st G = mc_ev X 149 25 [v0, .int x] (.int x :: st) G) ∧
  (∀ (a0 : Int32) (r : Nat) (ls st : List Value) (G : mc_H), st.length ≤ 4 → mc_cls G r = some 8 → mc_ev X 149 25 ls (.int a0 :: .ref r :: st) G = (mc_ev X 148 0 [.ref r, .int a0, .null, .null] [] G).bind (fun q => mc_ev X 149 28 ls (q.1.toList ++ st) q.2)) ∧
  (∀ (x : Int32) (ls st : List Value) (G : mc_H), mc_ev X 149 28 ls (.int x :: st) G = if x = 0 then mc_ev X 149 35 ls st G else mc_ev X 149 31 ls st G) ∧
  (∀ (ls st : List Value) (G : mc_H), mc_ev X 149 31 ls st G = mc_ev X 149 32 ls (.int 1 :: st) G) ∧
  (∀ (ls st : List Value) (G : mc_H), mc_ev X 149 32 ls st G = mc_ev X 149 36 ls st G) ∧
  (∀ (ls st : List Value) (G : mc_H), mc_ev X 149 35 ls st G = mc_ev X 149 36 ls (.int 0 :: st) G) ∧
  (∀ (v : Int32) (ls : List Value) (G : mc_H), mc_ev X 149 36 ls [.int v] G = some (some (.int v), G)) := ⟨fun v1 x st G => ev_aload_n rfl rfl,
  fun ls st G => ev_iconst rfl rfl,
  fun v r ls st G => ev_putfield rfl,
  fun v0 x st G => ev_iload_n rfl rfl,
  fun ls st G => ev_iconst rfl rfl,
  fun v1 x st G => ev_aload_n rfl rfl,
  fun r ls st G hr hG => ev_virt (As := []) rfl rfl rfl rfl rfl rfl hr hG,
  fun ls st G => ev_iconst rfl rfl,
  fun x y ls st G => ev_isub rfl,
  fun a0 a1 a2 ls st G hr => ev_stat (As := [.int a0, .int a1, .int a2]) rfl (by decide) rfl rfl rfl rfl hr,
  fun x ls st G => ev_br rfl rfl,
  fun ls st G => ev_iconst rfl rfl,
  fun ls st G => ev_goto rfl rfl,
  fun v1 x st G => ev_aload_n rfl rfl,
  fun v0 x st G => ev_iload_n rfl rfl,
  fun a0 r ls st G hr hG => ev_virt (As := [.int a0]) rfl rfl rfl rfl rfl rfl hr hG,
  fun x ls st G => ev_br rfl rfl,
  fun ls st G => ev_iconst rfl rfl,
  fun ls st G => ev_goto rfl rfl,
  fun ls st G => ev_iconst rfl rfl,
  fun v ls G => ev_ireturn rfl rfl⟩
set_option maxRecDepth 100000 in
theorem h_150_2 {X : mc_X} : ∀ (v0 v1 v3 v4 v5 v6 : Value) (x : Int32) (st : List Value) (G : mc_H), mc_ev X 150 2 [v0, v1, .int x, v3, v4, v5, v6] st G = mc_ev X 150 3 [v0, v1, .int x, v3, v4, v5, v6] (.int x :: st) G := fun v0 v1 v3 v4 v5 v6 x st G => ev_iload_n rfl rfl
set_option maxRecDepth 100000 in
theorem h_150_35 {X : mc_X} : ∀ (v0 v1 v3 v4 v5 v6 : Value) (x : Int32) (st : List Value) (G : mc_H), mc_ev X 150 35 [v0, v1, .int x, v3, v4, v5, v6] st G = mc_ev X 150 36 [v0, v1, .int x, v3, v4, v5, v6] (.int x :: st) G := fun v0 v1 v3 v4 v5 v6 x st G => ev_iload_n rfl rfl
set_option maxRecDepth 100000 in
theorem h_150_43 {X : mc_X} : ∀ (v0 v1 v2 v4 v5 v6 : Value) (x : Int32) (st : List Value) (G : mc_H), mc_ev X 150 43 [v0, v1, v2, .int x, v4, v5, v6] st G = mc_ev X 150 44 [v0, v1, v2, .int x, v4, v5, v6] (.int x :: st) G := fun v0 v1 v2 v4 v5 v6 x st G => ev_iload_n rfl rfl
set_option maxRecDepth 100000 in
theorem e_150 {X : mc_X} : (∀ (ls st : List Value) (G : mc_H), mc_ev X 150 0 ls st G = mc_ev X 150 1 ls (.int 0 :: st) G) ∧
  (∀ (v0 v1 v2 v3 v4 v5 v6 : Value) (x : Int32) (st : List Value) (G : mc_H), mc_ev X 150 1 [v0, v1, v2, v3, v4, v5, v6] (.int x :: st) G = mc_ev X 150 2 [v0, v1, .int x, v3, v4, v5, v6] st G) ∧
  (∀ (v1 v2 v3 v4 v5 v6 : Value) (x : Nat) (st : List Value) (G : mc_H), mc_ev X 150 3 [.ref x, v1, v2, v3, v4, v5, v6] st G = mc_ev X 150 4 [.ref x, v1, v2, v3, v4, v5, v6] (.ref x :: st) G) ∧
  (∀ (r : Nat) (ls st : List Value) (G : mc_H), st.length ≤ 4 → mc_cls G r = some 8 → mc_ev X 150 4 ls (.ref r :: st) G = (mc_ev X 116 0 [.ref r] [] G).bind (fun q => mc_ev X 150 7 ls (q.1.toList ++ st) q.2)) ∧
  (∀ (x y : Int32) (ls st : List Value) (G : mc_H), mc_ev X 150 7 ls (.int y :: .int x :: st) G = if x < y then mc_ev X 150 10 ls st G else mc_ev X 150 33 ls st G) ∧
  (∀ (v1 v2 v3 v4 v5 v6 : Value) (x : Nat) (st : List Value) (G : mc_H), mc_ev X 150 10 [.ref x, v1, v2, v3, v4, v5, v6] st G = mc_ev X 150 11 [.ref x, v1, v2, v3, v4, v5, v6] (.ref x :: st) G) ∧
  (∀ (r : Nat) (ls st : List Value) (G : mc_H), mc_ev X 150 11 ls (.ref r :: st) G = (mc_getf G r 8 18).bind (fun v => mc_ev X 150 14 ls (v :: st) G)) ∧
  (∀ (v0 v1 v3 v4 v5 v6 : Value) (x : Int32) (st : List Value) (G : mc_H), mc_ev X 150 14 [v0, v1, .int x, v3, v4, v5, v6] st G = mc_ev X 150 15 [v0, v1, .int x, v3, v4, v5, v6] (.int x :: st) G) ∧
  (∀ (v0 v1 v3 v4 v5 v6 : Value) (x : Int32) (st : List Value) (G : mc_H), mc_ev X 150 15 [v0, v1, .int x, v3, v4, v5, v6] st G = mc_ev X 150 16 [v0, v1, .int x, v3, v4, v5, v6] (.int x :: st) G) ∧
  (∀ (v0 v2 v3 v4 v5 v6 : Value) (x : Int32) (st : List Value) (G : mc_H), mc_ev X 150 16 [v0, .int x, v2, v3, v4, v5, v6] st G = mc_ev X 150 17 [v0, .int x, v2, v3, v4, v5, v6] (.int x :: st) G) ∧
  (∀ (x y : Int32) (ls st : List Value) (G : mc_H), mc_ev X 150 17 ls (.int y :: .int x :: st) G = if x = y then mc_ev X 150 20 ls st G else mc_ev X 150 24 ls st G) ∧
  (∀ (ls st : List Value) (G : mc_H), mc_ev X 150 20 ls st G = mc_ev X 150 21 ls (.int 0 :: st) G) ∧
  (∀ (ls st : List Value) (G : mc_H), mc_ev X 150 21 ls st G = mc_ev X 150 26 ls st G) ∧
  (∀ (ls st : List Value) (G : mc_H), mc_ev X 150 24 ls st G = mc_ev X 150 26 ls (.int 2147483647 :: st) G) ∧
  (∀ (x i : Int32) (r : Nat) (ls st : List Value) (G : mc_H), mc_ev X 150 26 ls (.int x :: .int i :: .ref r :: st) G = (mc_setA G 0 r i x).bind (fun G' => mc_ev X 150 27 ls st G')) ∧
  (∀ (v0 v1 v3 v4 v5 v6 : Value) (x : Int32) (st : List Value) (G : mc_H), mc_ev X 150 27 [v0, v1, .int x, v3, v4, v5, v6] st G = mc_ev X 150 30 [v0, v1, .int (x + 1), v3, v4, v5, v6] st G) ∧
  (∀ (ls st : List Value) (G : mc_H), mc_ev X 150 30 ls st G = mc_ev X 150 2 ls st G) ∧
  (∀ (ls st : List Value) (G : mc_H), mc_ev X 150 33 ls st G = mc_ev X 150 34 ls (.int 1 :: st) G) ∧
  (∀ (v0 v1 v2 v3 v4 v5 v6 : Value) (x : Int32) (st : List Value) (G : mc_H), mc_ev X 150 34 [v0, v1, v2, v3, v4, v5, v6] (.int x :: st) G = mc_ev X 150 35 [v0, v1, .int x, v3, v4, v5, v6] st G) ∧
  (∀ (x : Int32) (ls st : List Value) (G : mc_H), mc_ev X 150 36 ls (.int x :: st) G = if x = 0 then mc_ev X 150 185 ls st G else mc_ev X 150 39 ls st G) ∧
  (∀ (ls st : List Value) (G : mc_H), mc_ev X 150 39 ls st G = mc_ev X 150 40 ls (.int 0 :: st) G) ∧
  (∀ (v0 v1 v2 v3 v4 v5 v6 : Value) (x : Int32) (st : List Value) (G : mc_H), mc_ev X 150 40 [v0, v1, v2, v3, v4, v5, v6] (.int x :: st) G = mc_ev X 150 41 [v0, v1, .int x, v3, v4, v5, v6] st G) ∧
  (∀ (ls st : List Value) (G : mc_H), mc_ev X 150 41 ls st G = mc_ev X 150 42 ls (.int 0 :: st) G) ∧
  (∀ (v0 v1 v2 v3 v4 v5 v6 : Value) (x : Int32) (st : List Value) (G : mc_H), mc_ev X 150 42 [v0, v1, v2, v3, v4, v5, v6] (.int x :: st) G = mc_ev X 150 43 [v0, v1, v2, .int x, v4, v5, v6] st G) ∧
  (∀ (v1 v2 v3 v4 v5 v6 : Value) (x : Nat) (st : List Value) (G : mc_H), mc_ev X 150 44 [.ref x, v1, v2, v3, v4, v5, v6] st G = mc_ev X 150 45 [.ref x, v1, v2, v3, v4, v5, v6] (.ref x :: st) G) ∧
  (∀ (r : Nat) (ls st : List Value) (G : mc_H), st.length ≤ 4 → mc_cls G r = some 8 → mc_ev X 150 45 ls (.ref r :: st) G = (mc_ev X 115 0 [.ref r] [] G).bind (fun q => mc_ev X 150 48 ls (q.1.toList ++ st) q.2)) ∧
  (∀ (x y : Int32) (ls st : List Value) (G : mc_H), mc_ev X 150 48 ls (.int y :: .int x :: st) G = if x < y then mc_ev X 150 51 ls st G else mc_ev X 150 182 ls st G) ∧
  (∀ (v1 v2 v3 v4 v5 v6 : Value) (x : Nat) (st : List Value) (G : mc_H), mc_ev X 150 51 [.ref x, v1, v2, v3, v4, v5, v6] st G = mc_ev X 150 52 [.ref x, v1, v2, v3, v4, v5, v6] (.ref x :: st) G) ∧
  (∀ (v0 v1 v2 v4 v5 v6 : Value) (x : Int32) (st : List Value) (G : mc_H), mc_ev X 150 52 [v0, v1, v2, .int x, v4, v5, v6] st G = mc_ev X 150 53 [v0, v1, v2, .int x, v4, v5, v6] (.int x :: st) G) ∧
  (∀ (ls st : List Value) (G : mc_H), mc_ev X 150 53 ls st G = mc_ev X 150 54 ls (.int 0 :: st) G) ∧
  (∀ (a0 : Int32) (a1 : Int32) (r : Nat) (ls st : List Value) (G : mc_H), st.length ≤ 4 → mc_cls G r = some 8 → mc_ev X 150 54 ls (.int a1 :: .int a0 :: .ref r :: st) G = (mc_ev X 125 0 [.ref r, .int a0, .int a1, .null, .null, .null] [] G).bind (fun q => mc_ev X 150 57 ls (q.1.toList ++ st) q.2)) ∧
  (∀ (v0 v1 v2 v3 v4 v5 v6 : Value) (x : Int32) (st : List Value) (G : mc_H), mc_ev X 150 57 [v0, v1, v2, v3, v4, v5, v6] (.int x :: st) G = mc_ev X 150 59 [v0, v1, v2, v3, .int x, v5, v6] st G) ∧
  (∀ (v1 v2 v3 v4 v5 v6 : Value) (x : Nat) (st : List Value) (G : mc_H), mc_ev X 150 59 [.ref x, v1, v2, v3, v4, v5, v6] st G = mc_ev X 150 60 [.ref x, v1, v2, v3, v4, v5, v6] (.ref x :: st) G) ∧
  (∀ (v0 v1 v2 v4 v5 v6 : Value) (x : Int32) (st : List Value) (G : mc_H), mc_ev X 150 60 [v0, v1, v2, .int x, v4, v5, v6] st G = mc_ev X 150 61 [v0, v1, v2, .int x, v4, v5, v6] (.int x :: st) G) ∧
  (∀ (ls st : List Value) (G : mc_H), mc_ev X 150 61 ls st G = mc_ev X 150 62 ls (.int 1 :: st) G) ∧
  (∀ (a0 : Int32) (a1 : Int32) (r : Nat) (ls st : List Value) (G : mc_H), st.length ≤ 4 → mc_cls G r = some 8 → mc_ev X 150 62 ls (.int a1 :: .int a0 :: .ref r :: st) G = (mc_ev X 125 0 [.ref r, .int a0, .int a1, .null, .null, .null] [] G).bind (fun q => mc_ev X 150 65 ls (q.1.toList ++ st) q.2)) ∧
  (∀ (v0 v1 v2 v3 v4 v5 v6 : Value) (x : Int32) (st : List Value) (G : mc_H), mc_ev X 150 65 [v0, v1, v2, v3, v4, v5, v6] (.int x :: st) G = mc_ev X 150 67 [v0, v1, v2, v3, v4, .int x, v6] st G) ∧
  (∀ (v1 v2 v3 v4 v5 v6 : Value) (x : Nat) (st : List Value) (G : mc_H), mc_ev X 150 67 [.ref x, v1, v2, v3, v4, v5, v6] st G = mc_ev X 150 68 [.ref x, v1, v2, v3, v4, v5, v6] (.ref x :: st) G) ∧
  (∀ (v0 v1 v2 v4 v5 v6 : Value) (x : Int32) (st : List Value) (G : mc_H), mc_ev X 150 68 [v0, v1, v2, .int x, v4, v5, v6] st G = mc_ev X 150 69 [v0, v1, v2, .int x, v4, v5, v6] (.int x :: st) G) ∧
  (∀ (a0 : Int32) (r : Nat) (ls st : List Value) (G : mc_H), st.length ≤ 4 → mc_cls G r = some 8 → mc_ev X 150 69 ls (.int a0 :: .ref r :: st) G = (mc_ev X 127 0 [.ref r, .int a0, .null] [] G).bind (fun q => mc_ev X 150 72 ls (q.1.toList ++ st) q.2)) ∧
  (∀ (v0 v1 v2 v3 v4 v5 v6 : Value) (x : Int32) (st : List Value) (G : mc_H), mc_ev X 150 72 [v0, v1, v2, v3, v4, v5, v6] (.int x :: st) G = mc_ev X 150 74 [v0, v1, v2, v3, v4, v5, .int x] st G) ∧
  (∀ (v1 v2 v3 v4 v5 v6 : Value) (x : Nat) (st : List Value) (G : mc_H), mc_ev X 150 74 [.ref x, v1, v2, v3, v4, v5, v6] st G = mc_ev X 150 75 [.ref x, v1, v2, v3, v4, v5, v6] (.ref x :: st) G) ∧
  (∀ (r : Nat) (ls st : List Value) (G : mc_H), mc_ev X 150 75 ls (.ref r :: st) G = (mc_getf G r 8 18).bind (fun v => mc_ev X 150 78 ls (v :: st) G)) ∧
  (∀ (v0 v1 v2 v3 v5 v6 : Value) (x : Int32) (st : List Value) (G : mc_H), mc_ev X 150 78 [v0, v1, v2, v3, .int x, v5, v6] st G = mc_ev X 150 80 [v0, v1, v2, v3, .int x, v5, v6] (.int x :: st) G) ∧
  (∀ (i : Int32) (r : Value) (ls st : List Value) (G : mc_H), mc_ev X 150 80 ls (.int i :: r :: st) G = (mc_getA X G 0 r i).bind (fun x => mc_ev X 150 81 ls (.int x :: st) G)) ∧
  (∀ (ls st : List Value) (G : mc_H), mc_ev X 150 81 ls st G = mc_ev X 150 83 ls (.int 2147483647 :: st) G) ∧
  (∀ (x y : Int32) (ls st : List Value) (G : mc_H), mc_ev X 150 83 ls (.int y :: .int x :: st) G = if x < y then mc_ev X 150 86 ls st G else mc_ev X 150 125 ls st G) ∧
  (∀ (v1 v2 v3 v4 v5 v6 : Value) (x : Nat) (st : List Value) (G : mc_H), mc_ev X 150 86 [.ref x, v1, v2, v3, v4, v5, v6] st G = mc_ev X 150 87 [.ref x, v1, v2, v3, v4, v5, v6] (.ref x :: st) G) ∧
  (∀ (r : Nat) (ls st : List Value) (G : mc_H), mc_ev X 150 87 ls (.ref r :: st) G = (mc_getf G r 8 18).bind (fun v => mc_ev X 150 90 ls (v :: st) G)) ∧
  (∀ (v0 v1 v2 v3 v5 v6 : Value) (x : Int32) (st : List Value) (G : mc_H), mc_ev X 150 90 [v0, v1, v2, v3, .int x, v5, v6] st G = mc_ev X 150 92 [v0, v1, v2, v3, .int x, v5, v6] (.int x :: st) G) ∧
  (∀ (i : Int32) (r : Value) (ls st : List Value) (G : mc_H), mc_ev X 150 92 ls (.int i :: r :: st) G = (mc_getA X G 0 r i).bind (fun x => mc_ev X 150 93 ls (.int x :: st) G)) ∧
  (∀ (v0 v1 v2 v3 v4 v5 : Value) (x : Int32) (st : List Value) (G : mc_H), mc_ev X 150 93 [v0, v1, v2, v3, v4, v5, .int x] st G = mc_ev X 150 95 [v0, v1, v2, v3, v4, v5, .int x] (.int x :: st) G) ∧
  (∀ (x y : Int32) (ls st : List Value) (G : mc_H), mc_ev X 150 95 ls (.int y :: .int x :: st) G = mc_ev X 150 96 ls (.int (x + y) :: st) G) ∧
  (∀ (v1 v2 v3 v4 v5 v6 : Value) (x : Nat) (st : List Value) (G : mc_H), mc_ev X 150 96 [.ref x, v1, v2, v3, v4, v5, v6] st G = mc_ev X 150 97 [.ref x, v1, v2, v3, v4, v5, v6] (.ref x :: st) G) ∧
  (∀ (r : Nat) (ls st : List Value) (G : mc_H), mc_ev X 150 97 ls (.ref r :: st) G = (mc_getf G r 8 18).bind (fun v => mc_ev X 150 100 ls (v :: st) G)) ∧
  (∀ (v0 v1 v2 v3 v4 v6 : Value) (x : Int32) (st : List Value) (G : mc_H), mc_ev X 150 100 [v0, v1, v2, v3, v4, .int x, v6] st G = mc_ev X 150 102 [v0, v1, v2, v3, v4, .int x, v6] (.int x :: st) G) ∧
  (∀ (i : Int32) (r : Value) (ls st : List Value) (G : mc_H), mc_ev X 150 102 ls (.int i :: r :: st) G = (mc_getA X G 0 r i).bind (fun x => mc_ev X 150 103 ls (.int x :: st) G)) ∧
  (∀ (x y : Int32) (ls st : List Value) (G : mc_H), mc_ev X 150 103 ls (.int y :: .int x :: st) G = if x < y then mc_ev X 150 106 ls st G else mc_ev X 150 125 ls st G) ∧
  (∀ (v1 v2 v3 v4 v5 v6 : Value) (x : Nat) (st : List Value) (G : mc_H), mc_ev X 150 106 [.ref x, v1, v2, v3, v4, v5, v6] st G = mc_ev X 150 107 [.ref x, v1, v2, v3, v4, v5, v6] (.ref x :: st) G) ∧
  (∀ (r : Nat) (ls st : List Value) (G : mc_H), mc_ev X 150 107 ls (.ref r :: st) G = (mc_getf G r 8 18).bind (fun v => mc_ev X 150 110 ls (v :: st) G)) ∧
  (∀ (v0 v1 v2 v3 v4 v6 : Value) (x : Int32) (st : List Value) (G : mc_H), mc_ev X 150 110 [v0, v1, v2, v3, v4, .int x, v6] st G = mc_ev X 150 112 [v0, v1, v2, v3, v4, .int x, v6] (.int x :: st) G) ∧
  (∀ (v1 v2 v3 v4 v5 v6 : Value) (x : Nat) (st : List Value) (G : mc_H), mc_ev X 150 112 [.ref x, v1, v2, v3, v4, v5, v6] st G = mc_ev X 150 113 [.ref x, v1, v2, v3, v4, v5, v6] (.ref x :: st) G) ∧
  (∀ (r : Nat) (ls st : List Value) (G : mc_H), mc_ev X 150 113 ls (.ref r :: st) G = (mc_getf G r 8 18).bind (fun v => mc_ev X 150 116 ls (v :: st) G)) ∧
  (∀ (v0 v1 v2 v3 v5 v6 : Value) (x : Int32) (st : List Value) (G : mc_H), mc_ev X 150 116 [v0, v1, v2, v3, .int x, v5, v6] st G = mc_ev X 150 118 [v0, v1, v2, v3, .int x, v5, v6] (.int x :: st) G) ∧
  (∀ (i : Int32) (r : Value) (ls st : List Value) (G : mc_H), mc_ev X 150 118 ls (.int i :: r :: st) G = (mc_getA X G 0 r i).bind (fun x => mc_ev X 150 119 ls (.int x :: st) G)) ∧
  (∀ (v0 v1 v2 v3 v4 v5 : Value) (x : Int32) (st : List Value) (G : mc_H), mc_ev X 150 119 [v0, v1, v2, v3, v4, v5, .int x] st G = mc_ev X 150 121 [v0, v1, v2, v3, v4, v5, .int x] (.int x :: st) G) ∧
  (∀ (x y : Int32) (ls st : List Value) (G : mc_H), mc_ev X 150 121 ls (.int y :: .int x :: st) G = mc_ev X 150 122 ls (.int (x + y) :: st) G) ∧
  (∀ (x i : Int32) (r : Nat) (ls st : List Value) (G : mc_H), mc_ev X 150 122 ls (.int x :: .int i :: .ref r :: st) G = (mc_setA G 0 r i x).bind (fun G' => mc_ev X 150 123 ls st G')) ∧
  (∀ (ls st : List Value) (G : mc_H), mc_ev X 150 123 ls st G = mc_ev X 150 124 ls (.int 1 :: st) G) ∧
  (∀ (v0 v1 v2 v3 v4 v5 v6 : Value) (x : Int32) (st : List Value) (G : mc_H), mc_ev X 150 124 [v0, v1, v2, v3, v4, v5, v6] (.int x :: st) G = mc_ev X 150 125 [v0, v1, .int x, v3, v4, v5, v6] st G) ∧
  (∀ (v1 v2 v3 v4 v5 v6 : Value) (x : Nat) (st : List Value) (G : mc_H), mc_ev X 150 125 [.ref x, v1, v2, v3, v4, v5, v6] st G = mc_ev X 150 126 [.ref x, v1, v2, v3, v4, v5, v6] (.ref x :: st) G) ∧
  (∀ (r : Nat) (ls st : List Value) (G : mc_H), mc_ev X 150 126 ls (.ref r :: st) G = (mc_getf G r 8 18).bind (fun v => mc_ev X 150 129 ls (v :: st) G)) ∧
  (∀ (v0 v1 v2 v3 v4 v6 : Value) (x : Int32) (st : List Value) (G : mc_H), mc_ev X 150 129 [v0, v1, v2, v3, v4, .int x, v6] st G = mc_ev X 150 131 [v0, v1, v2, v3, v4, .int x, v6] (.int x :: st) G) ∧
  (∀ (i : Int32) (r : Value) (ls st : List Value) (G : mc_H), mc_ev X 150 131 ls (.int i :: r :: st) G = (mc_getA X G 0 r i).bind (fun x => mc_ev X 150 132 ls (.int x :: st) G)) ∧
  (∀ (ls st : List Value) (G : mc_H), mc_ev X 150 132 ls st G = mc_ev X 150 134 ls (.int 2147483647 :: st) G) ∧
  (∀ (x y : Int32) (ls st : List Value) (G : mc_H), mc_ev X 150 134 ls (.int y :: .int x :: st) G = if x < y then mc_ev X 150 137 ls st G else mc_ev X 150 176 ls st G) ∧
  (∀ (v1 v2 v3 v4 v5 v6 : Value) (x : Nat) (st : List Value) (G : mc_H), mc_ev X 150 137 [.ref x, v1, v2, v3, v4, v5, v6] st G = mc_ev X 150 138 [.ref x, v1, v2, v3, v4, v5, v6] (.ref x :: st) G) ∧
  (∀ (r : Nat) (ls st : List Value) (G : mc_H), mc_ev X 150 138 ls (.ref r :: st) G = (mc_getf G r 8 18).bind (fun v => mc_ev X 150 141 ls (v :: st) G)) ∧
  (∀ (v0 v1 v2 v3 v4 v6 : Value) (x : Int32) (st : List Value) (G : mc_H), mc_ev X 150 141 [v0, v1, v2, v3, v4, .int x, v6] st G = mc_ev X 150 143 [v0, v1, v2, v3, v4, .int x, v6] (.int x :: st) G) ∧
  (∀ (i : Int32) (r : Value) (ls st : List Value) (G : mc_H), mc_ev X 150 143 ls (.int i :: r :: st) G = (mc_getA X G 0 r i).bind (fun x => mc_ev X 150 144 ls (.int x :: st) G)) ∧
  (∀ (v0 v1 v2 v3 v4 v5 : Value) (x : Int32) (st : List Value) (G : mc_H), mc_ev X 150 144 [v0, v1, v2, v3, v4, v5, .int x] st G = mc_ev X 150 146 [v0, v1, v2, v3, v4, v5, .int x] (.int x :: st) G) ∧
  (∀ (x y : Int32) (ls st : List Value) (G : mc_H), mc_ev X 150 146 ls (.int y :: .int x :: st) G = mc_ev X 150 147 ls (.int (x + y) :: st) G) ∧
  (∀ (v1 v2 v3 v4 v5 v6 : Value) (x : Nat) (st : List Value) (G : mc_H), mc_ev X 150 147 [.ref x, v1, v2, v3, v4, v5, v6] st G = mc_ev X 150 148 [.ref x, v1, v2, v3, v4, v5, v6] (.ref x :: st) G) ∧
  (∀ (r : Nat) (ls st : List Value) (G : mc_H), mc_ev X 150 148 ls (.ref r :: st) G = (mc_getf G r 8 18).bind (fun v => mc_ev X 150 151 ls (v :: st) G)) ∧
  (∀ (v0 v1 v2 v3 v5 v6 : Value) (x : Int32) (st : List Value) (G : mc_H), mc_ev X 150 151 [v0, v1, v2, v3, .int x, v5, v6] st G = mc_ev X 150 153 [v0, v1, v2, v3, .int x, v5, v6] (.int x :: st) G) ∧
  (∀ (i : Int32) (r : Value) (ls st : List Value) (G : mc_H), mc_ev X 150 153 ls (.int i :: r :: st) G = (mc_getA X G 0 r i).bind (fun x => mc_ev X 150 154 ls (.int x :: st) G)) ∧
  (∀ (x y : Int32) (ls st : List Value) (G : mc_H), mc_ev X 150 154 ls (.int y :: .int x :: st) G = if x < y then mc_ev X 150 157 ls st G else mc_ev X 150 176 ls st G) ∧
  (∀ (v1 v2 v3 v4 v5 v6 : Value) (x : Nat) (st : List Value) (G : mc_H), mc_ev X 150 157 [.ref x, v1, v2, v3, v4, v5, v6] st G = mc_ev X 150 158 [.ref x, v1, v2, v3, v4, v5, v6] (.ref x :: st) G) ∧
  (∀ (r : Nat) (ls st : List Value) (G : mc_H), mc_ev X 150 158 ls (.ref r :: st) G = (mc_getf G r 8 18).bind (fun v => mc_ev X 150 161 ls (v :: st) G)) ∧
  (∀ (v0 v1 v2 v3 v5 v6 : Value) (x : Int32) (st : List Value) (G : mc_H), mc_ev X 150 161 [v0, v1, v2, v3, .int x, v5, v6] st G = mc_ev X 150 163 [v0, v1, v2, v3, .int x, v5, v6] (.int x :: st) G) ∧
  (∀ (v1 v2 v3 v4 v5 v6 : Value) (x : Nat) (st : List Value) (G : mc_H), mc_ev X 150 163 [.ref x, v1, v2, v3, v4, v5, v6] st G = mc_ev X 150 164 [.ref x, v1, v2, v3, v4, v5, v6] (.ref x :: st) G) ∧
  (∀ (r : Nat) (ls st : List Value) (G : mc_H), mc_ev X 150 164 ls (.ref r :: st) G = (mc_getf G r 8 18).bind (fun v => mc_ev X 150 167 ls (v :: st) G)) ∧
  (∀ (v0 v1 v2 v3 v4 v6 : Value) (x : Int32) (st : List Value) (G : mc_H), mc_ev X 150 167 [v0, v1, v2, v3, v4, .int x, v6] st G = mc_ev X 150 169 [v0, v1, v2, v3, v4, .int x, v6] (.int x :: st) G) ∧
  (∀ (i : Int32) (r : Value) (ls st : List Value) (G : mc_H), mc_ev X 150 169 ls (.int i :: r :: st) G = (mc_getA X G 0 r i).bind (fun x => mc_ev X 150 170 ls (.int x :: st) G)) ∧
  (∀ (v0 v1 v2 v3 v4 v5 : Value) (x : Int32) (st : List Value) (G : mc_H), mc_ev X 150 170 [v0, v1, v2, v3, v4, v5, .int x] st G = mc_ev X 150 172 [v0, v1, v2, v3, v4, v5, .int x] (.int x :: st) G) ∧
  (∀ (x y : Int32) (ls st : List Value) (G : mc_H), mc_ev X 150 172 ls (.int y :: .int x :: st) G = mc_ev X 150 173 ls (.int (x + y) :: st) G) ∧
  (∀ (x i : Int32) (r : Nat) (ls st : List Value) (G : mc_H), mc_ev X 150 173 ls (.int x :: .int i :: .ref r :: st) G = (mc_setA G 0 r i x).bind (fun G' => mc_ev X 150 174 ls st G')) ∧
  (∀ (ls st : List Value) (G : mc_H), mc_ev X 150 174 ls st G = mc_ev X 150 175 ls (.int 1 :: st) G) ∧
  (∀ (v0 v1 v2 v3 v4 v5 v6 : Value) (x : Int32) (st : List Value) (G : mc_H), mc_ev X 150 175 [v0, v1, v2, v3, v4, v5, v6] (.int x :: st) G = mc_ev X 150 176 [v0, v1, .int x, v3, v4, v5, v6] st G) ∧
  (∀ (v0 v1 v2 v4 v5 v6 : Value) (x : Int32) (st : List Value) (G : mc_H), mc_ev X 150 176 [v0, v1, v2, .int x, v4, v5, v6] st G = mc_ev X 150 179 [v0, v1, v2, .int (x + 1), v4, v5, v6] st G) ∧
  (∀ (ls st : List Value) (G : mc_H), mc_ev X 150 179 ls st G = mc_ev X 150 43 ls st G) ∧
  (∀ (ls st : List Value) (G : mc_H), mc_ev X 150 182 ls st G = mc_ev X 150 35 ls st G) ∧
  (∀ (ls : List Value) (G : mc_H), mc_ev X 150 185 ls [] G = some (none, G)) := ⟨fun ls st G => ev_iconst rfl rfl,
  fun v0 v1 v2 v3 v4 v5 v6 x st G => ev_istore_n (X := X) (k := 150) (pc := 1) (ls := [v0, v1, v2, v3, v4, v5, v6]) (st := st) (G := G) (j := 2) (x := x) rfl (Nat.le_of_ble_eq_true rfl),
  fun v1 v2 v3 v4 v5 v6 x st G => ev_aload_n rfl rfl,
  fun r ls st G hr hG => ev_virt (As := []) rfl rfl rfl rfl rfl rfl hr hG,
  fun x y ls st G => ev_br rfl rfl,
  fun v1 v2 v3 v4 v5 v6 x st G => ev_aload_n rfl rfl,
  fun r ls st G => ev_getfield rfl,
  fun v0 v1 v3 v4 v5 v6 x st G => ev_iload_n rfl rfl,
  fun v0 v1 v3 v4 v5 v6 x st G => ev_iload_n rfl rfl,
  fun v0 v2 v3 v4 v5 v6 x st G => ev_iload_n rfl rfl,
  fun x y ls st G => ev_br rfl rfl,
  fun ls st G => ev_iconst rfl rfl,
  fun ls st G => ev_goto rfl rfl,
  fun ls st G => ev_ldc rfl rfl,
  fun x i r ls st G => ev_iastore rfl,
  fun v0 v1 v3 v4 v5 v6 x st G => ev_iinc (X := X) (k := 150) (pc := 27) (ls := [v0, v1, .int x, v3, v4, v5, v6]) (st := st) (G := G) (j := 2) (n := 1) (x := x) (v := 1) rfl rfl rfl,
  fun ls st G => ev_goto rfl rfl,
  fun ls st G => ev_iconst rfl rfl,
  fun v0 v1 v2 v3 v4 v5 v6 x st G => ev_istore_n (X := X) (k := 150) (pc := 34) (ls := [v0, v1, v2, v3, v4, v5, v6]) (st := st) (G := G) (j := 2) (x := x) rfl (Nat.le_of_ble_eq_true rfl),
  fun x ls st G => ev_br rfl rfl,
  fun ls st G => ev_iconst rfl rfl,
  fun v0 v1 v2 v3 v4 v5 v6 x st G => ev_istore_n (X := X) (k := 150) (pc := 40) (ls := [v0, v1, v2, v3, v4, v5, v6]) (st := st) (G := G) (j := 2) (x := x) rfl (Nat.le_of_ble_eq_true rfl),
  fun ls st G => ev_iconst rfl rfl,
  fun v0 v1 v2 v3 v4 v5 v6 x st G => ev_istore_n (X := X) (k := 150) (pc := 42) (ls := [v0, v1, v2, v3, v4, v5, v6]) (st := st) (G := G) (j := 3) (x := x) rfl (Nat.le_of_ble_eq_true rfl),
  fun v1 v2 v3 v4 v5 v6 x st G => ev_aload_n rfl rfl,
  fun r ls st G hr hG => ev_virt (As := []) rfl rfl rfl rfl rfl rfl hr hG,
  fun x y ls st G => ev_br rfl rfl,
  fun v1 v2 v3 v4 v5 v6 x st G => ev_aload_n rfl rfl,
  fun v0 v1 v2 v4 v5 v6 x st G => ev_iload_n rfl rfl,
  fun ls st G => ev_iconst rfl rfl,
  fun a0 a1 r ls st G hr hG => ev_virt (As := [.int a0, .int a1]) rfl rfl rfl rfl rfl rfl hr hG,
  fun v0 v1 v2 v3 v4 v5 v6 x st G => ev_istore (X := X) (k := 150) (pc := 57) (ls := [v0, v1, v2, v3, v4, v5, v6]) (st := st) (G := G) (j := 4) (x := x) rfl (Nat.le_of_ble_eq_true rfl),
  fun v1 v2 v3 v4 v5 v6 x st G => ev_aload_n rfl rfl,
  fun v0 v1 v2 v4 v5 v6 x st G => ev_iload_n rfl rfl,
  fun ls st G => ev_iconst rfl rfl,
  fun a0 a1 r ls st G hr hG => ev_virt (As := [.int a0, .int a1]) rfl rfl rfl rfl rfl rfl hr hG,
  fun v0 v1 v2 v3 v4 v5 v6 x st G => ev_istore (X := X) (k := 150) (pc := 65) (ls := [v0, v1, v2, v3, v4, v5, v6]) (st := st) (G := G) (j := 5) (x := x) rfl (Nat.le_of_ble_eq_true rfl),
  fun v1 v2 v3 v4 v5 v6 x st G => ev_aload_n rfl rfl,
  fun v0 v1 v2 v4 v5 v6 x st G => ev_iload_n rfl rfl,
  fun a0 r ls st G hr hG => ev_virt (As := [.int a0]) rfl rfl rfl rfl rfl rfl hr hG,
  fun v0 v1 v2 v3 v4 v5 v6 x st G => ev_istore (X := X) (k := 150) (pc := 72) (ls := [v0, v1, v2, v3, v4, v5, v6]) (st := st) (G := G) (j := 6) (x := x) rfl (Nat.le_of_ble_eq_true rfl),
  fun v1 v2 v3 v4 v5 v6 x st G => ev_aload_n rfl rfl,
  fun r ls st G => ev_getfield rfl,
  fun v0 v1 v2 v3 v5 v6 x st G => ev_iload rfl rfl,
  fun i r ls st G => ev_iaload rfl,
  fun ls st G => ev_ldc rfl rfl,
  fun x y ls st G => ev_br rfl rfl,
  fun v1 v2 v3 v4 v5 v6 x st G => ev_aload_n rfl rfl,
  fun r ls st G => ev_getfield rfl,
  fun v0 v1 v2 v3 v5 v6 x st G => ev_iload rfl rfl,
  fun i r ls st G => ev_iaload rfl,
  fun v0 v1 v2 v3 v4 v5 x st G => ev_iload rfl rfl,
  fun x y ls st G => ev_iadd rfl,
  fun v1 v2 v3 v4 v5 v6 x st G => ev_aload_n rfl rfl,
  fun r ls st G => ev_getfield rfl,
  fun v0 v1 v2 v3 v4 v6 x st G => ev_iload rfl rfl,
  fun i r ls st G => ev_iaload rfl,
  fun x y ls st G => ev_br rfl rfl,
  fun v1 v2 v3 v4 v5 v6 x st G => ev_aload_n rfl rfl,
  fun r ls st G => ev_getfield rfl,
  fun v0 v1 v2 v3 v4 v6 x st G => ev_iload rfl rfl,
  fun v1 v2 v3 v4 v5 v6 x st G => ev_aload_n rfl rfl,
  fun r ls st G => ev_getfield rfl,
  fun v0 v1 v2 v3 v5 v6 x st G => ev_iload rfl rfl,
  fun i r ls st G => ev_iaload rfl,
  fun v0 v1 v2 v3 v4 v5 x st G => ev_iload rfl rfl,
  fun x y ls st G => ev_iadd rfl,
  fun x i r ls st G => ev_iastore rfl,
  fun ls st G => ev_iconst rfl rfl,
  fun v0 v1 v2 v3 v4 v5 v6 x st G => ev_istore_n (X := X) (k := 150) (pc := 124) (ls := [v0, v1, v2, v3, v4, v5, v6]) (st := st) (G := G) (j := 2) (x := x) rfl (Nat.le_of_ble_eq_true rfl),
  fun v1 v2 v3 v4 v5 v6 x st G => ev_aload_n rfl rfl,
  fun r ls st G => ev_getfield rfl,
  fun v0 v1 v2 v3 v4 v6 x st G => ev_iload rfl rfl,
  fun i r ls st G => ev_iaload rfl,
  fun ls st G => ev_ldc rfl rfl,
  fun x y ls st G => ev_br rfl rfl,
  fun v1 v2 v3 v4 v5 v6 x st G => ev_aload_n rfl rfl,
  fun r ls st G => ev_getfield rfl,
  fun v0 v1 v2 v3 v4 v6 x st G => ev_iload rfl rfl,
  fun i r ls st G => ev_iaload rfl,
  fun v0 v1 v2 v3 v4 v5 x st G => ev_iload rfl rfl,
  fun x y ls st G => ev_iadd rfl,
  fun v1 v2 v3 v4 v5 v6 x st G => ev_aload_n rfl rfl,
  fun r ls st G => ev_getfield rfl,
  fun v0 v1 v2 v3 v5 v6 x st G => ev_iload rfl rfl,
  fun i r ls st G => ev_iaload rfl,
  fun x y ls st G => ev_br rfl rfl,
  fun v1 v2 v3 v4 v5 v6 x st G => ev_aload_n rfl rfl,
  fun r ls st G => ev_getfield rfl,
  fun v0 v1 v2 v3 v5 v6 x st G => ev_iload rfl rfl,
  fun v1 v2 v3 v4 v5 v6 x st G => ev_aload_n rfl rfl,
  fun r ls st G => ev_getfield rfl,
  fun v0 v1 v2 v3 v4 v6 x st G => ev_iload rfl rfl,
  fun i r ls st G => ev_iaload rfl,
  fun v0 v1 v2 v3 v4 v5 x st G => ev_iload rfl rfl,
  fun x y ls st G => ev_iadd rfl,
  fun x i r ls st G => ev_iastore rfl,
  fun ls st G => ev_iconst rfl rfl,
  fun v0 v1 v2 v3 v4 v5 v6 x st G => ev_istore_n (X := X) (k := 150) (pc := 175) (ls := [v0, v1, v2, v3, v4, v5, v6]) (st := st) (G := G) (j := 2) (x := x) rfl (Nat.le_of_ble_eq_true rfl),
  fun v0 v1 v2 v4 v5 v6 x st G => ev_iinc (X := X) (k := 150) (pc := 176) (ls := [v0, v1, v2, .int x, v4, v5, v6]) (st := st) (G := G) (j := 3) (n := 1) (x := x) (v := 1) rfl rfl rfl,
  fun ls st G => ev_goto rfl rfl,
  fun ls st G => ev_goto rfl rfl,
  fun ls G => ev_return rfl rfl⟩
set_option maxRecDepth 100000 in
theorem e_151 {X : mc_X} : (∀ (v1 v2 : Value) (x : Nat) (st : List Value) (G : mc_H), mc_ev X 151 0 [.ref x, v1, v2] st G = mc_ev X 151 1 [.ref x, v1, v2] (.ref x :: st) G) ∧
  (∀ (ls st : List Value) (G : mc_H), mc_ev X 151 1 ls st G = mc_ev X 151 2 ls (.int 0 :: st) G) ∧
  (∀ (v : Value) (r : Nat) (ls st : List Value) (G : mc_H), mc_ev X 151 2 ls (v :: .ref r :: st) G = (mc_setf G r 8 0 v).bind (fun G' => mc_ev X 151 5 ls st G')) ∧
  (∀ (v0 v2 : Value) (x : Int32) (st : List Value) (G : mc_H), mc_ev X 151 5 [v0, .int x, v2] st G = mc_ev X 151 6 [v0, .int x, v2] (.int x :: st) G) ∧
  (∀ (ls st : List Value) (G : mc_H), mc_ev X 151 6 ls st G = mc_ev X 151 7 ls (.int 0 :: st) G) ∧
  (∀ (v1 v2 : Value) (x : Nat) (st : List Value) (G : mc_H), mc_ev X 151 7 [.ref x, v1, v2] st G = mc_ev X 151 8 [.ref x, v1, v2] (.ref x :: st) G) ∧
  (∀ (r : Nat) (ls st : List Value) (G : mc_H), st.length ≤ 4 → mc_cls G r = some 8 → mc_ev X 151 8 ls (.ref r :: st) G = (mc_ev X 116 0 [.ref r] [] G).bind (fun q => mc_ev X 151 11 ls (q.1.toList ++ st) q.2)) ∧
  (∀ (ls st : List Value) (G : mc_H), mc_ev X 151 11 ls st G = mc_ev X 151 12 ls (.int 1 :: st) G) ∧
  (∀ (x y : Int32) (ls st : List Value) (G : mc_H), mc_ev X 151 12 ls (.int y :: .int x :: st) G = mc_ev X 151 13 ls (.int (x - y) :: st) G) ∧
  (∀ (a0 : Int32) (a1 : Int32) (a2 : Int32) (ls st : List Value) (G : mc_H), st.length ≤ 4 → mc_ev X 151 13 ls (.int a2 :: .int a1 :: .int a0 :: st) G = (mc_ev X 112 0 [.int a0, .int a1, .int a2] [] G).bind (fun q => mc_ev X 151 16 ls (q.1.toList ++ st) q.2)) ∧
  (∀ (x : Int32) (ls st : List Value) (G : mc_H), mc_ev X 151 16 ls (.int x :: st) G = if x = 0 then mc_ev X 151 33 ls st G else mc_ev X 151 19 ls st G) ∧
  (∀ (v0 v1 : Value) (x : Int32) (st : List Value) (G : mc_H), mc_ev X 151 19 [v0, v1, .int x] st G = mc_ev X 151 20 [v0, v1, .int x] (.int x :: st) G) ∧
  (∀ (ls st : List Value) (G : mc_H), mc_ev X 151 20 ls st G = mc_ev X 151 21 ls (.int 0 :: st) G) ∧
  (∀ (v1 v2 : Value) (x : Nat) (st : List Value) (G : mc_H), mc_ev X 151 21 [.ref x, v1, v2] st G = mc_ev X 151 22 [.ref x, v1, v2] (.ref x :: st) G) ∧
  (∀ (r : Nat) (ls st : List Value) (G : mc_H), st.length ≤ 4 → mc_cls G r = some 8 → mc_ev X 151 22 ls (.ref r :: st) G = (mc_ev X 116 0 [.ref r] [] G).bind (fun q => mc_ev X 151 25 ls (q.1.toList ++ st) q.2)) ∧
  (∀ (ls st : List Value) (G : mc_H), mc_ev X 151 25 ls st G = mc_ev X 151 26 ls (.int 1 :: st) G) ∧
  (∀ (x y : Int32) (ls st : List Value) (G : mc_H), mc_ev X 151 26 ls (.int y :: .int x :: st) G = mc_ev X 151 27 ls (.int (x - y) :: st) G) ∧
  (∀ (a0 : Int32) (a1 : Int32) (a2 : Int32) (ls st : List Value) (G : mc_H), st.length ≤ 4 → mc_ev X 151 27 ls (.int a2 :: .int a1 :: .int a0 :: st) G = (mc_ev X 112 0 [.int a0, .int a1, .int a2] [] G).bind (fun q => mc_ev X 151 30 ls (q.1.toList ++ st) q.2)) ∧
  (∀ (x : Int32) (ls st : List Value) (G : mc_H), mc_ev X 151 30 ls (.int x :: st) G = if x = 0 then mc_ev X 151 33 ls st G else mc_ev X 151 35 ls st G) ∧
  (∀ (ls st : List Value) (G : mc_H), mc_ev X 151 33 ls st G = mc_ev X 151 34 ls (.int (-1) :: st) G) ∧
  (∀ (v : Int32) (ls : List Value) (G : mc_H), mc_ev X 151 34 ls [.int v] G = some (some (.int v), G)) ∧
  (∀ (v1 v2 : Value) (x : Nat) (st : List Value) (G : mc_H), mc_ev X 151 35 [.ref x, v1, v2] st G = mc_ev X 151 36 [.ref x, v1, v2] (.ref x :: st) G) ∧
  (∀ (v0 v2 : Value) (x : Int32) (st : List Value) (G : mc_H), mc_ev X 151 36 [v0, .int x, v2] st G = mc_ev X 151 37 [v0, .int x, v2] (.int x :: st) G) ∧
  (∀ (a0 : Int32) (r : Nat) (ls st : List Value) (G : mc_H), st.length ≤ 4 → mc_cls G r = some 8 → mc_ev X 151 37 ls (.int a0 :: .ref r :: st) G = (mc_ev X 150 0 [.ref r, .int a0, .null, .null, .null, .null, .null] [] G).bind (fun q => mc_ev X 151 40 ls (q.1.toList ++ st) q.2)) ∧
  (∀ (v1 v2 : Value) (x : Nat) (st : List Value) (G : mc_H), mc_ev X 151 40 [.ref x, v1, v2] st G = mc_ev X 151 41 [.ref x, v1, v2] (.ref x :: st) G) ∧
  (∀ (r : Nat) (ls st : List Value) (G : mc_H), mc_ev X 151 41 ls (.ref r :: st) G = (mc_getf G r 8 18).bind (fun v => mc_ev X 151 44 ls (v :: st) G)) ∧
  (∀ (v0 v1 : Value) (x : Int32) (st : List Value) (G : mc_H), mc_ev X 151 44 [v0, v1, .int x] st G = mc_ev X 151 45 [v0, v1, .int x] (.int x :: st) G) ∧
  (∀ (i : Int32) (r : Value) (ls st : List Value) (G : mc_H), mc_ev X 151 45 ls (.int i :: r :: st) G = (mc_getA X G 0 r i).bind (fun x => mc_ev X 151 46 ls (.int x :: st) G)) ∧
  (∀ (v : Int32) (ls : List Value) (G : mc_H), mc_ev X 151 46 ls [.int v] G = some (some (.int v), G)) := ⟨fun v1 v2 x st G => ev_aload_n rfl rfl,
  fun ls st G => ev_iconst rfl rfl,
  fun v r ls st G => ev_putfield rfl,
  fun v0 v2 x st G => ev_iload_n rfl rfl,
  fun ls st G => ev_iconst rfl rfl,
  fun v1 v2 x st G => ev_aload_n rfl rfl,
  fun r ls st G hr hG => ev_virt (As := []) rfl rfl rfl rfl rfl rfl hr hG,
  fun ls st G => ev_iconst rfl rfl,
  fun x y ls st G => ev_isub rfl,
  fun a0 a1 a2 ls st G hr => ev_stat (As := [.int a0, .int a1, .int a2]) rfl (by decide) rfl rfl rfl rfl hr,
  fun x ls st G => ev_br rfl rfl,
  fun v0 v1 x st G => ev_iload_n rfl rfl,
  fun ls st G => ev_iconst rfl rfl,
  fun v1 v2 x st G => ev_aload_n rfl rfl,
  fun r ls st G hr hG => ev_virt (As := []) rfl rfl rfl rfl rfl rfl hr hG,
  fun ls st G => ev_iconst rfl rfl,
  fun x y ls st G => ev_isub rfl,
  fun a0 a1 a2 ls st G hr => ev_stat (As := [.int a0, .int a1, .int a2]) rfl (by decide) rfl rfl rfl rfl hr,
  fun x ls st G => ev_br rfl rfl,
  fun ls st G => ev_iconst rfl rfl,
  fun v ls G => ev_ireturn rfl rfl,
  fun v1 v2 x st G => ev_aload_n rfl rfl,
  fun v0 v2 x st G => ev_iload_n rfl rfl,
  fun a0 r ls st G hr hG => ev_virt (As := [.int a0]) rfl rfl rfl rfl rfl rfl hr hG,
  fun v1 v2 x st G => ev_aload_n rfl rfl,
  fun r ls st G => ev_getfield rfl,
  fun v0 v1 x st G => ev_iload_n rfl rfl,
  fun i r ls st G => ev_iaload rfl,
  fun v ls G => ev_ireturn rfl rfl⟩
set_option maxRecDepth 100000 in
theorem h_152_7 {X : mc_X} : ∀ (v0 v2 v3 v4 v5 : Value) (x : Int32) (st : List Value) (G : mc_H), mc_ev X 152 7 [v0, .int x, v2, v3, v4, v5] st G = mc_ev X 152 8 [v0, .int x, v2, v3, v4, v5] (.int x :: st) G := fun v0 v2 v3 v4 v5 x st G => ev_iload_n rfl rfl
set_option maxRecDepth 100000 in
theorem h_152_36 {X : mc_X} : ∀ (v0 v1 v3 v4 v5 : Value) (x : Int32) (st : List Value) (G : mc_H), mc_ev X 152 36 [v0, v1, .int x, v3, v4, v5] st G = mc_ev X 152 37 [v0, v1, .int x, v3, v4, v5] (.int x :: st) G := fun v0 v1 v3 v4 v5 x st G => ev_iload_n rfl rfl
set_option maxRecDepth 100000 in
theorem h_152_77 {X : mc_X} : ∀ (v0 v1 v3 v4 v5 : Value) (x : Int32) (st : List Value) (G : mc_H), mc_ev X 152 77 [v0, v1, .int x, v3, v4, v5] st G = mc_ev X 152 78 [v0, v1, .int x, v3, v4, v5] (.int x :: st) G := fun v0 v1 v3 v4 v5 x st G => ev_iload_n rfl rfl
set_option maxRecDepth 100000 in
theorem h_152_100 {X : mc_X} : ∀ (v0 v1 v3 v4 v5 : Value) (x : Int32) (st : List Value) (G : mc_H), mc_ev X 152 100 [v0, v1, .int x, v3, v4, v5] st G = mc_ev X 152 101 [v0, v1, .int x, v3, v4, v5] (.int x :: st) G := fun v0 v1 v3 v4 v5 x st G => ev_iload_n rfl rfl
set_option maxRecDepth 100000 in
theorem h_152_124 {X : mc_X} : ∀ (v0 v1 v2 v3 v5 : Value) (x : Int32) (st : List Value) (G : mc_H), mc_ev X 152 124 [v0, v1, v2, v3, .int x, v5] st G = mc_ev X 152 126 [v0, v1, v2, v3, .int x, v5] (.int x :: st) G := fun v0 v1 v2 v3 v5 x st G => ev_iload rfl rfl
set_option maxRecDepth 100000 in
theorem e_152 {X : mc_X} : (∀ (v1 v2 v3 v4 v5 : Value) (x : Nat) (st : List Value) (G : mc_H), mc_ev X 152 0 [.ref x, v1, v2, v3, v4, v5] st G = mc_ev X 152 1 [.ref x, v1, v2, v3, v4, v5] (.ref x :: st) G) ∧
  (∀ (ls st : List Value) (G : mc_H), mc_ev X 152 1 ls st G = mc_ev X 152 2 ls (.int 0 :: st) G) ∧
  (∀ (v : Value) (r : Nat) (ls st : List Value) (G : mc_H), mc_ev X 152 2 ls (v :: .ref r :: st) G = (mc_setf G r 8 0 v).bind (fun G' => mc_ev X 152 5 ls st G')) ∧
  (∀ (ls st : List Value) (G : mc_H), mc_ev X 152 5 ls st G = mc_ev X 152 6 ls (.int 0 :: st) G) ∧
  (∀ (v0 v1 v2 v3 v4 v5 : Value) (x : Int32) (st : List Value) (G : mc_H), mc_ev X 152 6 [v0, v1, v2, v3, v4, v5] (.int x :: st) G = mc_ev X 152 7 [v0, .int x, v2, v3, v4, v5] st G) ∧
  (∀ (v1 v2 v3 v4 v5 : Value) (x : Nat) (st : List Value) (G : mc_H), mc_ev X 152 8 [.ref x, v1, v2, v3, v4, v5] st G = mc_ev X 152 9 [.ref x, v1, v2, v3, v4, v5] (.ref x :: st) G) ∧
  (∀ (r : Nat) (ls st : List Value) (G : mc_H), st.length ≤ 4 → mc_cls G r = some 8 → mc_ev X 152 9 ls (.ref r :: st) G = (mc_ev X 113 0 [.ref r] [] G).bind (fun q => mc_ev X 152 12 ls (q.1.toList ++ st) q.2)) ∧
  (∀ (x y : Int32) (ls st : List Value) (G : mc_H), mc_ev X 152 12 ls (.int y :: .int x :: st) G = if x < y then mc_ev X 152 15 ls st G else mc_ev X 152 32 ls st G) ∧
  (∀ (v1 v2 v3 v4 v5 : Value) (x : Nat) (st : List Value) (G : mc_H), mc_ev X 152 15 [.ref x, v1, v2, v3, v4, v5] st G = mc_ev X 152 16 [.ref x, v1, v2, v3, v4, v5] (.ref x :: st) G) ∧
  (∀ (v0 v2 v3 v4 v5 : Value) (x : Int32) (st : List Value) (G : mc_H), mc_ev X 152 16 [v0, .int x, v2, v3, v4, v5] st G = mc_ev X 152 17 [v0, .int x, v2, v3, v4, v5] (.int x :: st) G) ∧
  (∀ (a0 : Int32) (r : Nat) (ls st : List Value) (G : mc_H), st.length ≤ 4 → mc_cls G r = some 8 → mc_ev X 152 17 ls (.int a0 :: .ref r :: st) G = (mc_ev X 120 0 [.ref r, .int a0] [] G).bind (fun q => mc_ev X 152 20 ls (q.1.toList ++ st) q.2)) ∧
  (∀ (x : Int32) (ls st : List Value) (G : mc_H), mc_ev X 152 20 ls (.int x :: st) G = if x = 0 then mc_ev X 152 26 ls st G else mc_ev X 152 23 ls st G) ∧
  (∀ (ls st : List Value) (G : mc_H), mc_ev X 152 23 ls st G = mc_ev X 152 25 ls (.int (-2) :: st) G) ∧
  (∀ (v : Int32) (ls : List Value) (G : mc_H), mc_ev X 152 25 ls [.int v] G = some (some (.int v), G)) ∧
  (∀ (v0 v2 v3 v4 v5 : Value) (x : Int32) (st : List Value) (G : mc_H), mc_ev X 152 26 [v0, .int x, v2, v3, v4, v5] st G = mc_ev X 152 29 [v0, .int (x + 1), v2, v3, v4, v5] st G) ∧
  (∀ (ls st : List Value) (G : mc_H), mc_ev X 152 29 ls st G = mc_ev X 152 7 ls st G) ∧
  (∀ (ls st : List Value) (G : mc_H), mc_ev X 152 32 ls st G = mc_ev X 152 33 ls (.int 0 :: st) G) ∧
  (∀ (v0 v1 v2 v3 v4 v5 : Value) (x : Int32) (st : List Value) (G : mc_H), mc_ev X 152 33 [v0, v1, v2, v3, v4, v5] (.int x :: st) G = mc_ev X 152 34 [v0, .int x, v2, v3, v4, v5] st G) ∧
  (∀ (ls st : List Value) (G : mc_H), mc_ev X 152 34 ls st G = mc_ev X 152 35 ls (.int 0 :: st) G) ∧
  (∀ (v0 v1 v2 v3 v4 v5 : Value) (x : Int32) (st : List Value) (G : mc_H), mc_ev X 152 35 [v0, v1, v2, v3, v4, v5] (.int x :: st) G = mc_ev X 152 36 [v0, v1, .int x, v3, v4, v5] st G) ∧
  (∀ (v1 v2 v3 v4 v5 : Value) (x : Nat) (st : List Value) (G : mc_H), mc_ev X 152 37 [.ref x, v1, v2, v3, v4, v5] st G = mc_ev X 152 38 [.ref x, v1, v2, v3, v4, v5] (.ref x :: st) G) ∧
  (∀ (r : Nat) (ls st : List Value) (G : mc_H), st.length ≤ 4 → mc_cls G r = some 8 → mc_ev X 152 38 ls (.ref r :: st) G = (mc_ev X 116 0 [.ref r] [] G).bind (fun q => mc_ev X 152 41 ls (q.1.toList ++ st) q.2)) ∧
  (∀ (x y : Int32) (ls st : List Value) (G : mc_H), mc_ev X 152 41 ls (.int y :: .int x :: st) G = if x < y then mc_ev X 152 44 ls st G else mc_ev X 152 68 ls st G) ∧
  (∀ (v0 v2 v3 v4 v5 : Value) (x : Int32) (st : List Value) (G : mc_H), mc_ev X 152 44 [v0, .int x, v2, v3, v4, v5] st G = mc_ev X 152 45 [v0, .int x, v2, v3, v4, v5] (.int x :: st) G) ∧
  (∀ (v1 v2 v3 v4 v5 : Value) (x : Nat) (st : List Value) (G : mc_H), mc_ev X 152 45 [.ref x, v1, v2, v3, v4, v5] st G = mc_ev X 152 46 [.ref x, v1, v2, v3, v4, v5] (.ref x :: st) G) ∧
  (∀ (v0 v1 v3 v4 v5 : Value) (x : Int32) (st : List Value) (G : mc_H), mc_ev X 152 46 [v0, v1, .int x, v3, v4, v5] st G = mc_ev X 152 47 [v0, v1, .int x, v3, v4, v5] (.int x :: st) G) ∧
  (∀ (a0 : Int32) (r : Nat) (ls st : List Value) (G : mc_H), st.length ≤ 4 → mc_cls G r = some 8 → mc_ev X 152 47 ls (.int a0 :: .ref r :: st) G = (mc_ev X 148 0 [.ref r, .int a0, .null, .null] [] G).bind (fun q => mc_ev X 152 50 ls (q.1.toList ++ st) q.2)) ∧
  (∀ (x : Int32) (ls st : List Value) (G : mc_H), mc_ev X 152 50 ls (.int x :: st) G = if x = 0 then mc_ev X 152 59 ls st G else mc_ev X 152 53 ls st G) ∧
  (∀ (ls st : List Value) (G : mc_H), mc_ev X 152 53 ls st G = mc_ev X 152 54 ls (.int 1 :: st) G) ∧
  (∀ (v0 v1 v3 v4 v5 : Value) (x : Int32) (st : List Value) (G : mc_H), mc_ev X 152 54 [v0, v1, .int x, v3, v4, v5] st G = mc_ev X 152 55 [v0, v1, .int x, v3, v4, v5] (.int x :: st) G) ∧
  (∀ (x y : Int32) (ls st : List Value) (G : mc_H), mc_ev X 152 55 ls (.int y :: .int x :: st) G = mc_ev X 152 56 ls (.int (x <<< (y &&& 31)) :: st) G) ∧
  (∀ (ls st : List Value) (G : mc_H), mc_ev X 152 56 ls st G = mc_ev X 152 60 ls st G) ∧
  (∀ (ls st : List Value) (G : mc_H), mc_ev X 152 59 ls st G = mc_ev X 152 60 ls (.int 0 :: st) G) ∧
  (∀ (x y : Int32) (ls st : List Value) (G : mc_H), mc_ev X 152 60 ls (.int y :: .int x :: st) G = mc_ev X 152 61 ls (.int (x ||| y) :: st) G) ∧
  (∀ (v0 v1 v2 v3 v4 v5 : Value) (x : Int32) (st : List Value) (G : mc_H), mc_ev X 152 61 [v0, v1, v2, v3, v4, v5] (.int x :: st) G = mc_ev X 152 62 [v0, .int x, v2, v3, v4, v5] st G) ∧
  (∀ (v0 v1 v3 v4 v5 : Value) (x : Int32) (st : List Value) (G : mc_H), mc_ev X 152 62 [v0, v1, .int x, v3, v4, v5] st G = mc_ev X 152 65 [v0, v1, .int (x + 1), v3, v4, v5] st G) ∧
  (∀ (ls st : List Value) (G : mc_H), mc_ev X 152 65 ls st G = mc_ev X 152 36 ls st G) ∧
  (∀ (v1 v2 v3 v4 v5 : Value) (x : Nat) (st : List Value) (G : mc_H), mc_ev X 152 68 [.ref x, v1, v2, v3, v4, v5] st G = mc_ev X 152 69 [.ref x, v1, v2, v3, v4, v5] (.ref x :: st) G) ∧
  (∀ (r : Nat) (ls st : List Value) (G : mc_H), mc_ev X 152 69 ls (.ref r :: st) G = (mc_getf G r 8 19).bind (fun v => mc_ev X 152 72 ls (v :: st) G)) ∧
  (∀ (ls st : List Value) (G : mc_H), mc_ev X 152 72 ls st G = mc_ev X 152 73 ls (.int 0 :: st) G) ∧
  (∀ (ls st : List Value) (G : mc_H), mc_ev X 152 73 ls st G = mc_ev X 152 74 ls (.int 0 :: st) G) ∧
  (∀ (x i : Int32) (r : Nat) (ls st : List Value) (G : mc_H), mc_ev X 152 74 ls (.int x :: .int i :: .ref r :: st) G = (mc_setA G 0 r i x).bind (fun G' => mc_ev X 152 75 ls st G')) ∧
  (∀ (ls st : List Value) (G : mc_H), mc_ev X 152 75 ls st G = mc_ev X 152 76 ls (.int 1 :: st) G) ∧
  (∀ (v0 v1 v2 v3 v4 v5 : Value) (x : Int32) (st : List Value) (G : mc_H), mc_ev X 152 76 [v0, v1, v2, v3, v4, v5] (.int x :: st) G = mc_ev X 152 77 [v0, v1, .int x, v3, v4, v5] st G) ∧
  (∀ (v0 v2 v3 v4 v5 : Value) (x : Int32) (st : List Value) (G : mc_H), mc_ev X 152 78 [v0, .int x, v2, v3, v4, v5] st G = mc_ev X 152 79 [v0, .int x, v2, v3, v4, v5] (.int x :: st) G) ∧
  (∀ (x y : Int32) (ls st : List Value) (G : mc_H), mc_ev X 152 79 ls (.int y :: .int x :: st) G = if y < x then mc_ev X 152 212 ls st G else mc_ev X 152 82 ls st G) ∧
  (∀ (v1 v2 v3 v4 v5 : Value) (x : Nat) (st : List Value) (G : mc_H), mc_ev X 152 82 [.ref x, v1, v2, v3, v4, v5] st G = mc_ev X 152 83 [.ref x, v1, v2, v3, v4, v5] (.ref x :: st) G) ∧
  (∀ (r : Nat) (ls st : List Value) (G : mc_H), mc_ev X 152 83 ls (.ref r :: st) G = (mc_getf G r 8 19).bind (fun v => mc_ev X 152 86 ls (v :: st) G)) ∧
  (∀ (v0 v1 v3 v4 v5 : Value) (x : Int32) (st : List Value) (G : mc_H), mc_ev X 152 86 [v0, v1, .int x, v3, v4, v5] st G = mc_ev X 152 87 [v0, v1, .int x, v3, v4, v5] (.int x :: st) G) ∧
  (∀ (ls st : List Value) (G : mc_H), mc_ev X 152 87 ls st G = mc_ev X 152 89 ls (.int 1000000000 :: st) G) ∧
  (∀ (x i : Int32) (r : Nat) (ls st : List Value) (G : mc_H), mc_ev X 152 89 ls (.int x :: .int i :: .ref r :: st) G = (mc_setA G 0 r i x).bind (fun G' => mc_ev X 152 90 ls st G')) ∧
  (∀ (v0 v1 v3 v4 v5 : Value) (x : Int32) (st : List Value) (G : mc_H), mc_ev X 152 90 [v0, v1, .int x, v3, v4, v5] st G = mc_ev X 152 91 [v0, v1, .int x, v3, v4, v5] (.int x :: st) G) ∧
  (∀ (v0 v2 v3 v4 v5 : Value) (x : Int32) (st : List Value) (G : mc_H), mc_ev X 152 91 [v0, .int x, v2, v3, v4, v5] st G = mc_ev X 152 92 [v0, .int x, v2, v3, v4, v5] (.int x :: st) G) ∧
  (∀ (ls st : List Value) (G : mc_H), mc_ev X 152 92 ls st G = mc_ev X 152 93 ls (.int (-1) :: st) G) ∧
  (∀ (x y : Int32) (ls st : List Value) (G : mc_H), mc_ev X 152 93 ls (.int y :: .int x :: st) G = mc_ev X 152 94 ls (.int (x ^^^ y) :: st) G) ∧
  (∀ (x y : Int32) (ls st : List Value) (G : mc_H), mc_ev X 152 94 ls (.int y :: .int x :: st) G = mc_ev X 152 95 ls (.int (x &&& y) :: st) G) ∧
  (∀ (x : Int32) (ls st : List Value) (G : mc_H), mc_ev X 152 95 ls (.int x :: st) G = if x = 0 then mc_ev X 152 98 ls st G else mc_ev X 152 206 ls st G) ∧
  (∀ (ls st : List Value) (G : mc_H), mc_ev X 152 98 ls st G = mc_ev X 152 99 ls (.int 0 :: st) G) ∧
  (∀ (v0 v1 v2 v3 v4 v5 : Value) (x : Int32) (st : List Value) (G : mc_H), mc_ev X 152 99 [v0, v1, v2, v3, v4, v5] (.int x :: st) G = mc_ev X 152 100 [v0, v1, v2, .int x, v4, v5] st G) ∧
  (∀ (v0 v1 v2 v4 v5 : Value) (x : Int32) (st : List Value) (G : mc_H), mc_ev X 152 101 [v0, v1, v2, .int x, v4, v5] st G = mc_ev X 152 102 [v0, v1, v2, .int x, v4, v5] (.int x :: st) G) ∧
  (∀ (x y : Int32) (ls st : List Value) (G : mc_H), mc_ev X 152 102 ls (.int y :: .int x :: st) G = mc_ev X 152 103 ls (.int (x >>> (y &&& 31)) :: st) G) ∧
  (∀ (ls st : List Value) (G : mc_H), mc_ev X 152 103 ls st G = mc_ev X 152 104 ls (.int 1 :: st) G) ∧
  (∀ (x y : Int32) (ls st : List Value) (G : mc_H), mc_ev X 152 104 ls (.int y :: .int x :: st) G = mc_ev X 152 105 ls (.int (x &&& y) :: st) G) ∧
  (∀ (x : Int32) (ls st : List Value) (G : mc_H), mc_ev X 152 105 ls (.int x :: st) G = if x = 0 then mc_ev X 152 108 ls st G else mc_ev X 152 114 ls st G) ∧
  (∀ (v0 v1 v2 v4 v5 : Value) (x : Int32) (st : List Value) (G : mc_H), mc_ev X 152 108 [v0, v1, v2, .int x, v4, v5] st G = mc_ev X 152 111 [v0, v1, v2, .int (x + 1), v4, v5] st G) ∧
  (∀ (ls st : List Value) (G : mc_H), mc_ev X 152 111 ls st G = mc_ev X 152 100 ls st G) ∧
  (∀ (v1 v2 v3 v4 v5 : Value) (x : Nat) (st : List Value) (G : mc_H), mc_ev X 152 114 [.ref x, v1, v2, v3, v4, v5] st G = mc_ev X 152 115 [.ref x, v1, v2, v3, v4, v5] (.ref x :: st) G) ∧
  (∀ (v0 v1 v2 v4 v5 : Value) (x : Int32) (st : List Value) (G : mc_H), mc_ev X 152 115 [v0, v1, v2, .int x, v4, v5] st G = mc_ev X 152 116 [v0, v1, v2, .int x, v4, v5] (.int x :: st) G) ∧
  (∀ (a0 : Int32) (r : Nat) (ls st : List Value) (G : mc_H), st.length ≤ 4 → mc_cls G r = some 8 → mc_ev X 152 116 ls (.int a0 :: .ref r :: st) G = (mc_ev X 150 0 [.ref r, .int a0, .null, .null, .null, .null, .null] [] G).bind (fun q => mc_ev X 152 119 ls (q.1.toList ++ st) q.2)) ∧
  (∀ (v0 v1 v2 v4 v5 : Value) (x : Int32) (st : List Value) (G : mc_H), mc_ev X 152 119 [v0, v1, v2, .int x, v4, v5] st G = mc_ev X 152 120 [v0, v1, v2, .int x, v4, v5] (.int x :: st) G) ∧
  (∀ (ls st : List Value) (G : mc_H), mc_ev X 152 120 ls st G = mc_ev X 152 121 ls (.int 1 :: st) G) ∧
  (∀ (x y : Int32) (ls st : List Value) (G : mc_H), mc_ev X 152 121 ls (.int y :: .int x :: st) G = mc_ev X 152 122 ls (.int (x + y) :: st) G) ∧
  (∀ (v0 v1 v2 v3 v4 v5 : Value) (x : Int32) (st : List Value) (G : mc_H), mc_ev X 152 122 [v0, v1, v2, v3, v4, v5] (.int x :: st) G = mc_ev X 152 124 [v0, v1, v2, v3, .int x, v5] st G) ∧
  (∀ (v1 v2 v3 v4 v5 : Value) (x : Nat) (st : List Value) (G : mc_H), mc_ev X 152 126 [.ref x, v1, v2, v3, v4, v5] st G = mc_ev X 152 127 [.ref x, v1, v2, v3, v4, v5] (.ref x :: st) G) ∧
  (∀ (r : Nat) (ls st : List Value) (G : mc_H), st.length ≤ 4 → mc_cls G r = some 8 → mc_ev X 152 127 ls (.ref r :: st) G = (mc_ev X 116 0 [.ref r] [] G).bind (fun q => mc_ev X 152 130 ls (q.1.toList ++ st) q.2)) ∧
  (∀ (x y : Int32) (ls st : List Value) (G : mc_H), mc_ev X 152 130 ls (.int y :: .int x :: st) G = if x < y then mc_ev X 152 133 ls st G else mc_ev X 152 206 ls st G) ∧
  (∀ (v0 v1 v3 v4 v5 : Value) (x : Int32) (st : List Value) (G : mc_H), mc_ev X 152 133 [v0, v1, .int x, v3, v4, v5] st G = mc_ev X 152 134 [v0, v1, .int x, v3, v4, v5] (.int x :: st) G) ∧
  (∀ (v0 v1 v2 v3 v5 : Value) (x : Int32) (st : List Value) (G : mc_H), mc_ev X 152 134 [v0, v1, v2, v3, .int x, v5] st G = mc_ev X 152 136 [v0, v1, v2, v3, .int x, v5] (.int x :: st) G) ∧
  (∀ (x y : Int32) (ls st : List Value) (G : mc_H), mc_ev X 152 136 ls (.int y :: .int x :: st) G = mc_ev X 152 137 ls (.int (x >>> (y &&& 31)) :: st) G) ∧
  (∀ (ls st : List Value) (G : mc_H), mc_ev X 152 137 ls st G = mc_ev X 152 138 ls (.int 1 :: st) G) ∧
  (∀ (x y : Int32) (ls st : List Value) (G : mc_H), mc_ev X 152 138 ls (.int y :: .int x :: st) G = mc_ev X 152 139 ls (.int (x &&& y) :: st) G) ∧
  (∀ (ls st : List Value) (G : mc_H), mc_ev X 152 139 ls st G = mc_ev X 152 140 ls (.int 1 :: st) G) ∧
  (∀ (x y : Int32) (ls st : List Value) (G : mc_H), mc_ev X 152 140 ls (.int y :: .int x :: st) G = if x = y then mc_ev X 152 143 ls st G else mc_ev X 152 200 ls st G) ∧
  (∀ (v1 v2 v3 v4 v5 : Value) (x : Nat) (st : List Value) (G : mc_H), mc_ev X 152 143 [.ref x, v1, v2, v3, v4, v5] st G = mc_ev X 152 144 [.ref x, v1, v2, v3, v4, v5] (.ref x :: st) G) ∧
  (∀ (r : Nat) (ls st : List Value) (G : mc_H), mc_ev X 152 144 ls (.ref r :: st) G = (mc_getf G r 8 19).bind (fun v => mc_ev X 152 147 ls (v :: st) G)) ∧
  (∀ (v0 v1 v3 v4 v5 : Value) (x : Int32) (st : List Value) (G : mc_H), mc_ev X 152 147 [v0, v1, .int x, v3, v4, v5] st G = mc_ev X 152 148 [v0, v1, .int x, v3, v4, v5] (.int x :: st) G) ∧
  (∀ (ls st : List Value) (G : mc_H), mc_ev X 152 148 ls st G = mc_ev X 152 149 ls (.int 1 :: st) G) ∧
  (∀ (v0 v1 v2 v4 v5 : Value) (x : Int32) (st : List Value) (G : mc_H), mc_ev X 152 149 [v0, v1, v2, .int x, v4, v5] st G = mc_ev X 152 150 [v0, v1, v2, .int x, v4, v5] (.int x :: st) G) ∧
  (∀ (x y : Int32) (ls st : List Value) (G : mc_H), mc_ev X 152 150 ls (.int y :: .int x :: st) G = mc_ev X 152 151 ls (.int (x <<< (y &&& 31)) :: st) G) ∧
  (∀ (ls st : List Value) (G : mc_H), mc_ev X 152 151 ls st G = mc_ev X 152 152 ls (.int (-1) :: st) G) ∧
  (∀ (x y : Int32) (ls st : List Value) (G : mc_H), mc_ev X 152 152 ls (.int y :: .int x :: st) G = mc_ev X 152 153 ls (.int (x ^^^ y) :: st) G) ∧
  (∀ (x y : Int32) (ls st : List Value) (G : mc_H), mc_ev X 152 153 ls (.int y :: .int x :: st) G = mc_ev X 152 154 ls (.int (x &&& y) :: st) G) ∧
  (∀ (ls st : List Value) (G : mc_H), mc_ev X 152 154 ls st G = mc_ev X 152 155 ls (.int 1 :: st) G) ∧
  (∀ (v0 v1 v2 v3 v5 : Value) (x : Int32) (st : List Value) (G : mc_H), mc_ev X 152 155 [v0, v1, v2, v3, .int x, v5] st G = mc_ev X 152 157 [v0, v1, v2, v3, .int x, v5] (.int x :: st) G) ∧
  (∀ (x y : Int32) (ls st : List Value) (G : mc_H), mc_ev X 152 157 ls (.int y :: .int x :: st) G = mc_ev X 152 158 ls (.int (x <<< (y &&& 31)) :: st) G) ∧
  (∀ (ls st : List Value) (G : mc_H), mc_ev X 152 158 ls st G = mc_ev X 152 159 ls (.int (-1) :: st) G) ∧
  (∀ (x y : Int32) (ls st : List Value) (G : mc_H), mc_ev X 152 159 ls (.int y :: .int x :: st) G = mc_ev X 152 160 ls (.int (x ^^^ y) :: st) G) ∧
  (∀ (x y : Int32) (ls st : List Value) (G : mc_H), mc_ev X 152 160 ls (.int y :: .int x :: st) G = mc_ev X 152 161 ls (.int (x &&& y) :: st) G) ∧
  (∀ (i : Int32) (r : Value) (ls st : List Value) (G : mc_H), mc_ev X 152 161 ls (.int i :: r :: st) G = (mc_getA X G 0 r i).bind (fun x => mc_ev X 152 162 ls (.int x :: st) G)) ∧
  (∀ (v1 v2 v3 v4 v5 : Value) (x : Nat) (st : List Value) (G : mc_H), mc_ev X 152 162 [.ref x, v1, v2, v3, v4, v5] st G = mc_ev X 152 163 [.ref x, v1, v2, v3, v4, v5] (.ref x :: st) G) ∧
  (∀ (r : Nat) (ls st : List Value) (G : mc_H), mc_ev X 152 163 ls (.ref r :: st) G = (mc_getf G r 8 18).bind (fun v => mc_ev X 152 166 ls (v :: st) G)) ∧
  (∀ (v0 v1 v2 v3 v5 : Value) (x : Int32) (st : List Value) (G : mc_H), mc_ev X 152 166 [v0, v1, v2, v3, .int x, v5] st G = mc_ev X 152 168 [v0, v1, v2, v3, .int x, v5] (.int x :: st) G) ∧
  (∀ (i : Int32) (r : Value) (ls st : List Value) (G : mc_H), mc_ev X 152 168 ls (.int i :: r :: st) G = (mc_getA X G 0 r i).bind (fun x => mc_ev X 152 169 ls (.int x :: st) G)) ∧
  (∀ (x y : Int32) (ls st : List Value) (G : mc_H), mc_ev X 152 169 ls (.int y :: .int x :: st) G = mc_ev X 152 170 ls (.int (x + y) :: st) G) ∧
  (∀ (v0 v1 v2 v3 v4 v5 : Value) (x : Int32) (st : List Value) (G : mc_H), mc_ev X 152 170 [v0, v1, v2, v3, v4, v5] (.int x :: st) G = mc_ev X 152 172 [v0, v1, v2, v3, v4, .int x] st G) ∧
  (∀ (v1 v2 v3 v4 v5 : Value) (x : Nat) (st : List Value) (G : mc_H), mc_ev X 152 172 [.ref x, v1, v2, v3, v4, v5] st G = mc_ev X 152 173 [.ref x, v1, v2, v3, v4, v5] (.ref x :: st) G) ∧
  (∀ (r : Nat) (ls st : List Value) (G : mc_H), mc_ev X 152 173 ls (.ref r :: st) G = (mc_getf G r 8 19).bind (fun v => mc_ev X 152 176 ls (v :: st) G)) ∧
  (∀ (v0 v1 v3 v4 v5 : Value) (x : Int32) (st : List Value) (G : mc_H), mc_ev X 152 176 [v0, v1, .int x, v3, v4, v5] st G = mc_ev X 152 177 [v0, v1, .int x, v3, v4, v5] (.int x :: st) G) ∧
  (∀ (v0 v1 v2 v3 v4 : Value) (x : Int32) (st : List Value) (G : mc_H), mc_ev X 152 177 [v0, v1, v2, v3, v4, .int x] st G = mc_ev X 152 179 [v0, v1, v2, v3, v4, .int x] (.int x :: st) G) ∧
  (∀ (v1 v2 v3 v4 v5 : Value) (x : Nat) (st : List Value) (G : mc_H), mc_ev X 152 179 [.ref x, v1, v2, v3, v4, v5] st G = mc_ev X 152 180 [.ref x, v1, v2, v3, v4, v5] (.ref x :: st) G) ∧
  (∀ (r : Nat) (ls st : List Value) (G : mc_H), mc_ev X 152 180 ls (.ref r :: st) G = (mc_getf G r 8 19).bind (fun v => mc_ev X 152 183 ls (v :: st) G)) ∧
  (∀ (v0 v1 v3 v4 v5 : Value) (x : Int32) (st : List Value) (G : mc_H), mc_ev X 152 183 [v0, v1, .int x, v3, v4, v5] st G = mc_ev X 152 184 [v0, v1, .int x, v3, v4, v5] (.int x :: st) G) ∧
  (∀ (i : Int32) (r : Value) (ls st : List Value) (G : mc_H), mc_ev X 152 184 ls (.int i :: r :: st) G = (mc_getA X G 0 r i).bind (fun x => mc_ev X 152 185 ls (.int x :: st) G)) ∧
  (∀ (x y : Int32) (ls st : List Value) (G : mc_H), mc_ev X 152 185 ls (.int y :: .int x :: st) G = if x < y then mc_ev X 152 188 ls st G else mc_ev X 152 193 ls st G) ∧
  (∀ (v0 v1 v2 v3 v4 : Value) (x : Int32) (st : List Value) (G : mc_H), mc_ev X 152 188 [v0, v1, v2, v3, v4, .int x] st G = mc_ev X 152 190 [v0, v1, v2, v3, v4, .int x] (.int x :: st) G) ∧
  (∀ (ls st : List Value) (G : mc_H), mc_ev X 152 190 ls st G = mc_ev X 152 199 ls st G) ∧
  (∀ (v1 v2 v3 v4 v5 : Value) (x : Nat) (st : List Value) (G : mc_H), mc_ev X 152 193 [.ref x, v1, v2, v3, v4, v5] st G = mc_ev X 152 194 [.ref x, v1, v2, v3, v4, v5] (.ref x :: st) G) ∧
  (∀ (r : Nat) (ls st : List Value) (G : mc_H), mc_ev X 152 194 ls (.ref r :: st) G = (mc_getf G r 8 19).bind (fun v => mc_ev X 152 197 ls (v :: st) G)) ∧
  (∀ (v0 v1 v3 v4 v5 : Value) (x : Int32) (st : List Value) (G : mc_H), mc_ev X 152 197 [v0, v1, .int x, v3, v4, v5] st G = mc_ev X 152 198 [v0, v1, .int x, v3, v4, v5] (.int x :: st) G) ∧
  (∀ (i : Int32) (r : Value) (ls st : List Value) (G : mc_H), mc_ev X 152 198 ls (.int i :: r :: st) G = (mc_getA X G 0 r i).bind (fun x => mc_ev X 152 199 ls (.int x :: st) G)) ∧
  (∀ (x i : Int32) (r : Nat) (ls st : List Value) (G : mc_H), mc_ev X 152 199 ls (.int x :: .int i :: .ref r :: st) G = (mc_setA G 0 r i x).bind (fun G' => mc_ev X 152 200 ls st G')) ∧
  (∀ (v0 v1 v2 v3 v5 : Value) (x : Int32) (st : List Value) (G : mc_H), mc_ev X 152 200 [v0, v1, v2, v3, .int x, v5] st G = mc_ev X 152 203 [v0, v1, v2, v3, .int (x + 1), v5] st G) ∧
  (∀ (ls st : List Value) (G : mc_H), mc_ev X 152 203 ls st G = mc_ev X 152 124 ls st G) ∧
  (∀ (v0 v1 v3 v4 v5 : Value) (x : Int32) (st : List Value) (G : mc_H), mc_ev X 152 206 [v0, v1, .int x, v3, v4, v5] st G = mc_ev X 152 209 [v0, v1, .int (x + 1), v3, v4, v5] st G) ∧
  (∀ (ls st : List Value) (G : mc_H), mc_ev X 152 209 ls st G = mc_ev X 152 77 ls st G) ∧
  (∀ (v1 v2 v3 v4 v5 : Value) (x : Nat) (st : List Value) (G : mc_H), mc_ev X 152 212 [.ref x, v1, v2, v3, v4, v5] st G = mc_ev X 152 213 [.ref x, v1, v2, v3, v4, v5] (.ref x :: st) G) ∧
  (∀ (r : Nat) (ls st : List Value) (G : mc_H), mc_ev X 152 213 ls (.ref r :: st) G = (mc_getf G r 8 19).bind (fun v => mc_ev X 152 216 ls (v :: st) G)) ∧
  (∀ (v0 v2 v3 v4 v5 : Value) (x : Int32) (st : List Value) (G : mc_H), mc_ev X 152 216 [v0, .int x, v2, v3, v4, v5] st G = mc_ev X 152 217 [v0, .int x, v2, v3, v4, v5] (.int x :: st) G) ∧
  (∀ (i : Int32) (r : Value) (ls st : List Value) (G : mc_H), mc_ev X 152 217 ls (.int i :: r :: st) G = (mc_getA X G 0 r i).bind (fun x => mc_ev X 152 218 ls (.int x :: st) G)) ∧
  (∀ (v : Int32) (ls : List Value) (G : mc_H), mc_ev X 152 218 ls [.int v] G = some (some (.int v), G)) := ⟨fun v1 v2 v3 v4 v5 x st G => ev_aload_n rfl rfl,
  fun ls st G => ev_iconst rfl rfl,
  fun v r ls st G => ev_putfield rfl,
  fun ls st G => ev_iconst rfl rfl,
  fun v0 v1 v2 v3 v4 v5 x st G => ev_istore_n (X := X) (k := 152) (pc := 6) (ls := [v0, v1, v2, v3, v4, v5]) (st := st) (G := G) (j := 1) (x := x) rfl (Nat.le_of_ble_eq_true rfl),
  fun v1 v2 v3 v4 v5 x st G => ev_aload_n rfl rfl,
  fun r ls st G hr hG => ev_virt (As := []) rfl rfl rfl rfl rfl rfl hr hG,
  fun x y ls st G => ev_br rfl rfl,
  fun v1 v2 v3 v4 v5 x st G => ev_aload_n rfl rfl,
  fun v0 v2 v3 v4 v5 x st G => ev_iload_n rfl rfl,
  fun a0 r ls st G hr hG => ev_virt (As := [.int a0]) rfl rfl rfl rfl rfl rfl hr hG,
  fun x ls st G => ev_br rfl rfl,
  fun ls st G => ev_bipush rfl rfl,
  fun v ls G => ev_ireturn rfl rfl,
  fun v0 v2 v3 v4 v5 x st G => ev_iinc (X := X) (k := 152) (pc := 26) (ls := [v0, .int x, v2, v3, v4, v5]) (st := st) (G := G) (j := 1) (n := 1) (x := x) (v := 1) rfl rfl rfl,
  fun ls st G => ev_goto rfl rfl,
  fun ls st G => ev_iconst rfl rfl,
  fun v0 v1 v2 v3 v4 v5 x st G => ev_istore_n (X := X) (k := 152) (pc := 33) (ls := [v0, v1, v2, v3, v4, v5]) (st := st) (G := G) (j := 1) (x := x) rfl (Nat.le_of_ble_eq_true rfl),
  fun ls st G => ev_iconst rfl rfl,
  fun v0 v1 v2 v3 v4 v5 x st G => ev_istore_n (X := X) (k := 152) (pc := 35) (ls := [v0, v1, v2, v3, v4, v5]) (st := st) (G := G) (j := 2) (x := x) rfl (Nat.le_of_ble_eq_true rfl),
  fun v1 v2 v3 v4 v5 x st G => ev_aload_n rfl rfl,
  fun r ls st G hr hG => ev_virt (As := []) rfl rfl rfl rfl rfl rfl hr hG,
  fun x y ls st G => ev_br rfl rfl,
  fun v0 v2 v3 v4 v5 x st G => ev_iload_n rfl rfl,
  fun v1 v2 v3 v4 v5 x st G => ev_aload_n rfl rfl,
  fun v0 v1 v3 v4 v5 x st G => ev_iload_n rfl rfl,
  fun a0 r ls st G hr hG => ev_virt (As := [.int a0]) rfl rfl rfl rfl rfl rfl hr hG,
  fun x ls st G => ev_br rfl rfl,
  fun ls st G => ev_iconst rfl rfl,
  fun v0 v1 v3 v4 v5 x st G => ev_iload_n rfl rfl,
  fun x y ls st G => ev_ishl rfl,
  fun ls st G => ev_goto rfl rfl,
  fun ls st G => ev_iconst rfl rfl,
  fun x y ls st G => ev_ior rfl,
  fun v0 v1 v2 v3 v4 v5 x st G => ev_istore_n (X := X) (k := 152) (pc := 61) (ls := [v0, v1, v2, v3, v4, v5]) (st := st) (G := G) (j := 1) (x := x) rfl (Nat.le_of_ble_eq_true rfl),
  fun v0 v1 v3 v4 v5 x st G => ev_iinc (X := X) (k := 152) (pc := 62) (ls := [v0, v1, .int x, v3, v4, v5]) (st := st) (G := G) (j := 2) (n := 1) (x := x) (v := 1) rfl rfl rfl,
  fun ls st G => ev_goto rfl rfl,
  fun v1 v2 v3 v4 v5 x st G => ev_aload_n rfl rfl,
  fun r ls st G => ev_getfield rfl,
  fun ls st G => ev_iconst rfl rfl,
  fun ls st G => ev_iconst rfl rfl,
  fun x i r ls st G => ev_iastore rfl,
  fun ls st G => ev_iconst rfl rfl,
  fun v0 v1 v2 v3 v4 v5 x st G => ev_istore_n (X := X) (k := 152) (pc := 76) (ls := [v0, v1, v2, v3, v4, v5]) (st := st) (G := G) (j := 2) (x := x) rfl (Nat.le_of_ble_eq_true rfl),
  fun v0 v2 v3 v4 v5 x st G => ev_iload_n rfl rfl,
  fun x y ls st G => ev_br rfl rfl,
  fun v1 v2 v3 v4 v5 x st G => ev_aload_n rfl rfl,
  fun r ls st G => ev_getfield rfl,
  fun v0 v1 v3 v4 v5 x st G => ev_iload_n rfl rfl,
  fun ls st G => ev_ldc rfl rfl,
  fun x i r ls st G => ev_iastore rfl,
  fun v0 v1 v3 v4 v5 x st G => ev_iload_n rfl rfl,
  fun v0 v2 v3 v4 v5 x st G => ev_iload_n rfl rfl,
  fun ls st G => ev_iconst rfl rfl,
  fun x y ls st G => ev_ixor rfl,
  fun x y ls st G => ev_iand rfl,
  fun x ls st G => ev_br rfl rfl,
  fun ls st G => ev_iconst rfl rfl,
  fun v0 v1 v2 v3 v4 v5 x st G => ev_istore_n (X := X) (k := 152) (pc := 99) (ls := [v0, v1, v2, v3, v4, v5]) (st := st) (G := G) (j := 3) (x := x) rfl (Nat.le_of_ble_eq_true rfl),
  fun v0 v1 v2 v4 v5 x st G => ev_iload_n rfl rfl,
  fun x y ls st G => ev_ishr rfl,
  fun ls st G => ev_iconst rfl rfl,
  fun x y ls st G => ev_iand rfl,
  fun x ls st G => ev_br rfl rfl,
  fun v0 v1 v2 v4 v5 x st G => ev_iinc (X := X) (k := 152) (pc := 108) (ls := [v0, v1, v2, .int x, v4, v5]) (st := st) (G := G) (j := 3) (n := 1) (x := x) (v := 1) rfl rfl rfl,
  fun ls st G => ev_goto rfl rfl,
  fun v1 v2 v3 v4 v5 x st G => ev_aload_n rfl rfl,
  fun v0 v1 v2 v4 v5 x st G => ev_iload_n rfl rfl,
  fun a0 r ls st G hr hG => ev_virt (As := [.int a0]) rfl rfl rfl rfl rfl rfl hr hG,
  fun v0 v1 v2 v4 v5 x st G => ev_iload_n rfl rfl,
  fun ls st G => ev_iconst rfl rfl,
  fun x y ls st G => ev_iadd rfl,
  fun v0 v1 v2 v3 v4 v5 x st G => ev_istore (X := X) (k := 152) (pc := 122) (ls := [v0, v1, v2, v3, v4, v5]) (st := st) (G := G) (j := 4) (x := x) rfl (Nat.le_of_ble_eq_true rfl),
  fun v1 v2 v3 v4 v5 x st G => ev_aload_n rfl rfl,
  fun r ls st G hr hG => ev_virt (As := []) rfl rfl rfl rfl rfl rfl hr hG,
  fun x y ls st G => ev_br rfl rfl,
  fun v0 v1 v3 v4 v5 x st G => ev_iload_n rfl rfl,
  fun v0 v1 v2 v3 v5 x st G => ev_iload rfl rfl,
  fun x y ls st G => ev_ishr rfl,
  fun ls st G => ev_iconst rfl rfl,
  fun x y ls st G => ev_iand rfl,
  fun ls st G => ev_iconst rfl rfl,
  fun x y ls st G => ev_br rfl rfl,
  fun v1 v2 v3 v4 v5 x st G => ev_aload_n rfl rfl,
  fun r ls st G => ev_getfield rfl,
  fun v0 v1 v3 v4 v5 x st G => ev_iload_n rfl rfl,
  fun ls st G => ev_iconst rfl rfl,
  fun v0 v1 v2 v4 v5 x st G => ev_iload_n rfl rfl,
  fun x y ls st G => ev_ishl rfl,
  fun ls st G => ev_iconst rfl rfl,
  fun x y ls st G => ev_ixor rfl,
  fun x y ls st G => ev_iand rfl,
  fun ls st G => ev_iconst rfl rfl,
  fun v0 v1 v2 v3 v5 x st G => ev_iload rfl rfl,
  fun x y ls st G => ev_ishl rfl,
  fun ls st G => ev_iconst rfl rfl,
  fun x y ls st G => ev_ixor rfl,
  fun x y ls st G => ev_iand rfl,
  fun i r ls st G => ev_iaload rfl,
  fun v1 v2 v3 v4 v5 x st G => ev_aload_n rfl rfl,
  fun r ls st G => ev_getfield rfl,
  fun v0 v1 v2 v3 v5 x st G => ev_iload rfl rfl,
  fun i r ls st G => ev_iaload rfl,
  fun x y ls st G => ev_iadd rfl,
  fun v0 v1 v2 v3 v4 v5 x st G => ev_istore (X := X) (k := 152) (pc := 170) (ls := [v0, v1, v2, v3, v4, v5]) (st := st) (G := G) (j := 5) (x := x) rfl (Nat.le_of_ble_eq_true rfl),
  fun v1 v2 v3 v4 v5 x st G => ev_aload_n rfl rfl,
  fun r ls st G => ev_getfield rfl,
  fun v0 v1 v3 v4 v5 x st G => ev_iload_n rfl rfl,
  fun v0 v1 v2 v3 v4 x st G => ev_iload rfl rfl,
  fun v1 v2 v3 v4 v5 x st G => ev_aload_n rfl rfl,
  fun r ls st G => ev_getfield rfl,
  fun v0 v1 v3 v4 v5 x st G => ev_iload_n rfl rfl,
  fun i r ls st G => ev_iaload rfl,
  fun x y ls st G => ev_br rfl rfl,
  fun v0 v1 v2 v3 v4 x st G => ev_iload rfl rfl,
  fun ls st G => ev_goto rfl rfl,
  fun v1 v2 v3 v4 v5 x st G => ev_aload_n rfl rfl,
  fun r ls st G => ev_getfield rfl,
  fun v0 v1 v3 v4 v5 x st G => ev_iload_n rfl rfl,
  fun i r ls st G => ev_iaload rfl,
  fun x i r ls st G => ev_iastore rfl,
  fun v0 v1 v2 v3 v5 x st G => ev_iinc (X := X) (k := 152) (pc := 200) (ls := [v0, v1, v2, v3, .int x, v5]) (st := st) (G := G) (j := 4) (n := 1) (x := x) (v := 1) rfl rfl rfl,
  fun ls st G => ev_goto rfl rfl,
  fun v0 v1 v3 v4 v5 x st G => ev_iinc (X := X) (k := 152) (pc := 206) (ls := [v0, v1, .int x, v3, v4, v5]) (st := st) (G := G) (j := 2) (n := 1) (x := x) (v := 1) rfl rfl rfl,
  fun ls st G => ev_goto rfl rfl,
  fun v1 v2 v3 v4 v5 x st G => ev_aload_n rfl rfl,
  fun r ls st G => ev_getfield rfl,
  fun v0 v2 v3 v4 v5 x st G => ev_iload_n rfl rfl,
  fun i r ls st G => ev_iaload rfl,
  fun v ls G => ev_ireturn rfl rfl⟩
set_option maxRecDepth 100000 in
theorem e_153 {X : mc_X} : (∀ (v1 : Value) (x : Nat) (st : List Value) (G : mc_H), mc_ev X 153 0 [.ref x, v1] st G = mc_ev X 153 1 [.ref x, v1] (.ref x :: st) G) ∧
  (∀ (ls st : List Value) (G : mc_H), mc_ev X 153 1 ls st G = mc_ev X 153 2 ls (.int 0 :: st) G) ∧
  (∀ (v : Value) (r : Nat) (ls st : List Value) (G : mc_H), mc_ev X 153 2 ls (v :: .ref r :: st) G = (mc_setf G r 8 0 v).bind (fun G' => mc_ev X 153 5 ls st G')) ∧
  (∀ (v0 : Value) (x : Int32) (st : List Value) (G : mc_H), mc_ev X 153 5 [v0, .int x] st G = mc_ev X 153 6 [v0, .int x] (.int x :: st) G) ∧
  (∀ (ls st : List Value) (G : mc_H), mc_ev X 153 6 ls st G = mc_ev X 153 7 ls (.int 0 :: st) G) ∧
  (∀ (v1 : Value) (x : Nat) (st : List Value) (G : mc_H), mc_ev X 153 7 [.ref x, v1] st G = mc_ev X 153 8 [.ref x, v1] (.ref x :: st) G) ∧
  (∀ (r : Nat) (ls st : List Value) (G : mc_H), st.length ≤ 4 → mc_cls G r = some 8 → mc_ev X 153 8 ls (.ref r :: st) G = (mc_ev X 132 0 [.ref r] [] G).bind (fun q => mc_ev X 153 11 ls (q.1.toList ++ st) q.2)) ∧
  (∀ (ls st : List Value) (G : mc_H), mc_ev X 153 11 ls st G = mc_ev X 153 12 ls (.int 1 :: st) G) ∧
  (∀ (x y : Int32) (ls st : List Value) (G : mc_H), mc_ev X 153 12 ls (.int y :: .int x :: st) G = mc_ev X 153 13 ls (.int (x - y) :: st) G) ∧
  (∀ (a0 : Int32) (a1 : Int32) (a2 : Int32) (ls st : List Value) (G : mc_H), st.length ≤ 4 → mc_ev X 153 13 ls (.int a2 :: .int a1 :: .int a0 :: st) G = (mc_ev X 112 0 [.int a0, .int a1, .int a2] [] G).bind (fun q => mc_ev X 153 16 ls (q.1.toList ++ st) q.2)) ∧
  (∀ (x : Int32) (ls st : List Value) (G : mc_H), mc_ev X 153 16 ls (.int x :: st) G = if x = 0 then mc_ev X 153 27 ls st G else mc_ev X 153 19 ls st G) ∧
  (∀ (v1 : Value) (x : Nat) (st : List Value) (G : mc_H), mc_ev X 153 19 [.ref x, v1] st G = mc_ev X 153 20 [.ref x, v1] (.ref x :: st) G) ∧
  (∀ (v0 : Value) (x : Int32) (st : List Value) (G : mc_H), mc_ev X 153 20 [v0, .int x] st G = mc_ev X 153 21 [v0, .int x] (.int x :: st) G) ∧
  (∀ (a0 : Int32) (r : Nat) (ls st : List Value) (G : mc_H), st.length ≤ 4 → mc_cls G r = some 8 → mc_ev X 153 21 ls (.int a0 :: .ref r :: st) G = (mc_ev X 129 0 [.ref r, .int a0, .null, .null, .null, .null, .null] [] G).bind (fun q => mc_ev X 153 24 ls (q.1.toList ++ st) q.2)) ∧
  (∀ (ls st : List Value) (G : mc_H), mc_ev X 153 24 ls st G = mc_ev X 153 28 ls st G) ∧
  (∀ (ls st : List Value) (G : mc_H), mc_ev X 153 27 ls st G = mc_ev X 153 28 ls (.int (-1) :: st) G) ∧
  (∀ (v : Int32) (ls : List Value) (G : mc_H), mc_ev X 153 28 ls [.int v] G = some (some (.int v), G)) := ⟨fun v1 x st G => ev_aload_n rfl rfl,
  fun ls st G => ev_iconst rfl rfl,
  fun v r ls st G => ev_putfield rfl,
  fun v0 x st G => ev_iload_n rfl rfl,
  fun ls st G => ev_iconst rfl rfl,
  fun v1 x st G => ev_aload_n rfl rfl,
  fun r ls st G hr hG => ev_virt (As := []) rfl rfl rfl rfl rfl rfl hr hG,
  fun ls st G => ev_iconst rfl rfl,
  fun x y ls st G => ev_isub rfl,
  fun a0 a1 a2 ls st G hr => ev_stat (As := [.int a0, .int a1, .int a2]) rfl (by decide) rfl rfl rfl rfl hr,
  fun x ls st G => ev_br rfl rfl,
  fun v1 x st G => ev_aload_n rfl rfl,
  fun v0 x st G => ev_iload_n rfl rfl,
  fun a0 r ls st G hr hG => ev_virt (As := [.int a0]) rfl rfl rfl rfl rfl rfl hr hG,
  fun ls st G => ev_goto rfl rfl,
  fun ls st G => ev_iconst rfl rfl,
  fun v ls G => ev_ireturn rfl rfl⟩
set_option maxRecDepth 100000 in
theorem h_154_5 {X : mc_X} : ∀ (v0 v1 v3 : Value) (x : Int32) (st : List Value) (G : mc_H), mc_ev X 154 5 [v0, v1, .int x, v3] st G = mc_ev X 154 6 [v0, v1, .int x, v3] (.int x :: st) G := fun v0 v1 v3 x st G => ev_iload_n rfl rfl
set_option maxRecDepth 100000 in
theorem e_154 {X : mc_X} : (∀ (ls st : List Value) (G : mc_H), mc_ev X 154 0 ls st G = mc_ev X 154 2 ls (.int 2147483647 :: st) G) ∧
  (∀ (v0 v1 v2 v3 : Value) (x : Int32) (st : List Value) (G : mc_H), mc_ev X 154 2 [v0, v1, v2, v3] (.int x :: st) G = mc_ev X 154 3 [v0, .int x, v2, v3] st G) ∧
  (∀ (ls st : List Value) (G : mc_H), mc_ev X 154 3 ls st G = mc_ev X 154 4 ls (.int 0 :: st) G) ∧
  (∀ (v0 v1 v2 v3 : Value) (x : Int32) (st : List Value) (G : mc_H), mc_ev X 154 4 [v0, v1, v2, v3] (.int x :: st) G = mc_ev X 154 5 [v0, v1, .int x, v3] st G) ∧
  (∀ (v1 v2 v3 : Value) (x : Nat) (st : List Value) (G : mc_H), mc_ev X 154 6 [.ref x, v1, v2, v3] st G = mc_ev X 154 7 [.ref x, v1, v2, v3] (.ref x :: st) G) ∧
  (∀ (r : Nat) (ls st : List Value) (G : mc_H), st.length ≤ 4 → mc_cls G r = some 8 → mc_ev X 154 7 ls (.ref r :: st) G = (mc_ev X 132 0 [.ref r] [] G).bind (fun q => mc_ev X 154 10 ls (q.1.toList ++ st) q.2)) ∧
  (∀ (x y : Int32) (ls st : List Value) (G : mc_H), mc_ev X 154 10 ls (.int y :: .int x :: st) G = if x < y then mc_ev X 154 13 ls st G else mc_ev X 154 44 ls st G) ∧
  (∀ (v1 v2 v3 : Value) (x : Nat) (st : List Value) (G : mc_H), mc_ev X 154 13 [.ref x, v1, v2, v3] st G = mc_ev X 154 14 [.ref x, v1, v2, v3] (.ref x :: st) G) ∧
  (∀ (v0 v1 v3 : Value) (x : Int32) (st : List Value) (G : mc_H), mc_ev X 154 14 [v0, v1, .int x, v3] st G = mc_ev X 154 15 [v0, v1, .int x, v3] (.int x :: st) G) ∧
  (∀ (a0 : Int32) (r : Nat) (ls st : List Value) (G : mc_H), st.length ≤ 4 → mc_cls G r = some 8 → mc_ev X 154 15 ls (.int a0 :: .ref r :: st) G = (mc_ev X 131 0 [.ref r, .int a0, .null, .null] [] G).bind (fun q => mc_ev X 154 18 ls (q.1.toList ++ st) q.2)) ∧
  (∀ (x : Int32) (ls st : List Value) (G : mc_H), mc_ev X 154 18 ls (.int x :: st) G = if x = 0 then mc_ev X 154 38 ls st G else mc_ev X 154 21 ls st G) ∧
  (∀ (v1 v2 v3 : Value) (x : Nat) (st : List Value) (G : mc_H), mc_ev X 154 21 [.ref x, v1, v2, v3] st G = mc_ev X 154 22 [.ref x, v1, v2, v3] (.ref x :: st) G) ∧
  (∀ (v0 v1 v3 : Value) (x : Int32) (st : List Value) (G : mc_H), mc_ev X 154 22 [v0, v1, .int x, v3] st G = mc_ev X 154 23 [v0, v1, .int x, v3] (.int x :: st) G) ∧
  (∀ (a0 : Int32) (r : Nat) (ls st : List Value) (G : mc_H), st.length ≤ 4 → mc_cls G r = some 8 → mc_ev X 154 23 ls (.int a0 :: .ref r :: st) G = (mc_ev X 129 0 [.ref r, .int a0, .null, .null, .null, .null, .null] [] G).bind (fun q => mc_ev X 154 26 ls (q.1.toList ++ st) q.2)) ∧
  (∀ (v0 v1 v2 v3 : Value) (x : Int32) (st : List Value) (G : mc_H), mc_ev X 154 26 [v0, v1, v2, v3] (.int x :: st) G = mc_ev X 154 27 [v0, v1, v2, .int x] st G) ∧
  (∀ (v0 v1 v2 : Value) (x : Int32) (st : List Value) (G : mc_H), mc_ev X 154 27 [v0, v1, v2, .int x] st G = mc_ev X 154 28 [v0, v1, v2, .int x] (.int x :: st) G) ∧
  (∀ (v0 v2 v3 : Value) (x : Int32) (st : List Value) (G : mc_H), mc_ev X 154 28 [v0, .int x, v2, v3] st G = mc_ev X 154 29 [v0, .int x, v2, v3] (.int x :: st) G) ∧
  (∀ (x y : Int32) (ls st : List Value) (G : mc_H), mc_ev X 154 29 ls (.int y :: .int x :: st) G = if x < y then mc_ev X 154 32 ls st G else mc_ev X 154 36 ls st G) ∧
  (∀ (v0 v1 v2 : Value) (x : Int32) (st : List Value) (G : mc_H), mc_ev X 154 32 [v0, v1, v2, .int x] st G = mc_ev X 154 33 [v0, v1, v2, .int x] (.int x :: st) G) ∧
  (∀ (ls st : List Value) (G : mc_H), mc_ev X 154 33 ls st G = mc_ev X 154 37 ls st G) ∧
  (∀ (v0 v2 v3 : Value) (x : Int32) (st : List Value) (G : mc_H), mc_ev X 154 36 [v0, .int x, v2, v3] st G = mc_ev X 154 37 [v0, .int x, v2, v3] (.int x :: st) G) ∧
  (∀ (v0 v1 v2 v3 : Value) (x : Int32) (st : List Value) (G : mc_H), mc_ev X 154 37 [v0, v1, v2, v3] (.int x :: st) G = mc_ev X 154 38 [v0, .int x, v2, v3] st G) ∧
  (∀ (v0 v1 v3 : Value) (x : Int32) (st : List Value) (G : mc_H), mc_ev X 154 38 [v0, v1, .int x, v3] st G = mc_ev X 154 41 [v0, v1, .int (x + 1), v3] st G) ∧
  (∀ (ls st : List Value) (G : mc_H), mc_ev X 154 41 ls st G = mc_ev X 154 5 ls st G) ∧
  (∀ (v0 v2 v3 : Value) (x : Int32) (st : List Value) (G : mc_H), mc_ev X 154 44 [v0, .int x, v2, v3] st G = mc_ev X 154 45 [v0, .int x, v2, v3] (.int x :: st) G) ∧
  (∀ (v : Int32) (ls : List Value) (G : mc_H), mc_ev X 154 45 ls [.int v] G = some (some (.int v), G)) := ⟨fun ls st G => ev_ldc rfl rfl,
  fun v0 v1 v2 v3 x st G => ev_istore_n (X := X) (k := 154) (pc := 2) (ls := [v0, v1, v2, v3]) (st := st) (G := G) (j := 1) (x := x) rfl (Nat.le_of_ble_eq_true rfl),
  fun ls st G => ev_iconst rfl rfl,
  fun v0 v1 v2 v3 x st G => ev_istore_n (X := X) (k := 154) (pc := 4) (ls := [v0, v1, v2, v3]) (st := st) (G := G) (j := 2) (x := x) rfl (Nat.le_of_ble_eq_true rfl),
  fun v1 v2 v3 x st G => ev_aload_n rfl rfl,
  fun r ls st G hr hG => ev_virt (As := []) rfl rfl rfl rfl rfl rfl hr hG,
  fun x y ls st G => ev_br rfl rfl,
  fun v1 v2 v3 x st G => ev_aload_n rfl rfl,
  fun v0 v1 v3 x st G => ev_iload_n rfl rfl,
  fun a0 r ls st G hr hG => ev_virt (As := [.int a0]) rfl rfl rfl rfl rfl rfl hr hG,
  fun x ls st G => ev_br rfl rfl,
  fun v1 v2 v3 x st G => ev_aload_n rfl rfl,
  fun v0 v1 v3 x st G => ev_iload_n rfl rfl,
  fun a0 r ls st G hr hG => ev_virt (As := [.int a0]) rfl rfl rfl rfl rfl rfl hr hG,
  fun v0 v1 v2 v3 x st G => ev_istore_n (X := X) (k := 154) (pc := 26) (ls := [v0, v1, v2, v3]) (st := st) (G := G) (j := 3) (x := x) rfl (Nat.le_of_ble_eq_true rfl),
  fun v0 v1 v2 x st G => ev_iload_n rfl rfl,
  fun v0 v2 v3 x st G => ev_iload_n rfl rfl,
  fun x y ls st G => ev_br rfl rfl,
  fun v0 v1 v2 x st G => ev_iload_n rfl rfl,
  fun ls st G => ev_goto rfl rfl,
  fun v0 v2 v3 x st G => ev_iload_n rfl rfl,
  fun v0 v1 v2 v3 x st G => ev_istore_n (X := X) (k := 154) (pc := 37) (ls := [v0, v1, v2, v3]) (st := st) (G := G) (j := 1) (x := x) rfl (Nat.le_of_ble_eq_true rfl),
  fun v0 v1 v3 x st G => ev_iinc (X := X) (k := 154) (pc := 38) (ls := [v0, v1, .int x, v3]) (st := st) (G := G) (j := 2) (n := 1) (x := x) (v := 1) rfl rfl rfl,
  fun ls st G => ev_goto rfl rfl,
  fun v0 v2 v3 x st G => ev_iload_n rfl rfl,
  fun v ls G => ev_ireturn rfl rfl⟩
set_option maxRecDepth 100000 in
theorem e_155 {X : mc_X} : (∀ (x : Nat) (st : List Value) (G : mc_H), mc_ev X 155 0 [.ref x] st G = mc_ev X 155 1 [.ref x] (.ref x :: st) G) ∧
  (∀ (ls st : List Value) (G : mc_H), mc_ev X 155 1 ls st G = mc_ev X 155 2 ls (.int 0 :: st) G) ∧
  (∀ (v : Value) (r : Nat) (ls st : List Value) (G : mc_H), mc_ev X 155 2 ls (v :: .ref r :: st) G = (mc_setf G r 8 0 v).bind (fun G' => mc_ev X 155 5 ls st G')) ∧
  (∀ (x : Nat) (st : List Value) (G : mc_H), mc_ev X 155 5 [.ref x] st G = mc_ev X 155 6 [.ref x] (.ref x :: st) G) ∧
  (∀ (r : Nat) (ls st : List Value) (G : mc_H), st.length ≤ 4 → mc_cls G r = some 8 → mc_ev X 155 6 ls (.ref r :: st) G = (mc_ev X 154 0 [.ref r, .null, .null, .null] [] G).bind (fun q => mc_ev X 155 9 ls (q.1.toList ++ st) q.2)) ∧
  (∀ (v : Int32) (ls : List Value) (G : mc_H), mc_ev X 155 9 ls [.int v] G = some (some (.int v), G)) := ⟨fun  x st G => ev_aload_n rfl rfl,
  fun ls st G => ev_iconst rfl rfl,
  fun v r ls st G => ev_putfield rfl,
  fun  x st G => ev_aload_n rfl rfl,
  fun r ls st G hr hG => ev_virt (As := []) rfl rfl rfl rfl rfl rfl hr hG,
  fun v ls G => ev_ireturn rfl rfl⟩
set_option maxRecDepth 100000 in
theorem h_156_5 {X : mc_X} : ∀ (v0 v1 v2 v3 : Value) (x : Int32) (st : List Value) (G : mc_H), mc_ev X 156 5 [v0, v1, v2, v3, .int x] st G = mc_ev X 156 7 [v0, v1, v2, v3, .int x] (.int x :: st) G := fun v0 v1 v2 v3 x st G => ev_iload rfl rfl
set_option maxRecDepth 100000 in
theorem e_156 {X : mc_X} : (∀ (ls st : List Value) (G : mc_H), mc_ev X 156 0 ls st G = mc_ev X 156 1 ls (.int 0 :: st) G) ∧
  (∀ (v0 v1 v2 v3 v4 : Value) (x : Int32) (st : List Value) (G : mc_H), mc_ev X 156 1 [v0, v1, v2, v3, v4] (.int x :: st) G = mc_ev X 156 2 [v0, v1, v2, .int x, v4] st G) ∧
  (∀ (ls st : List Value) (G : mc_H), mc_ev X 156 2 ls st G = mc_ev X 156 3 ls (.int 0 :: st) G) ∧
  (∀ (v0 v1 v2 v3 v4 : Value) (x : Int32) (st : List Value) (G : mc_H), mc_ev X 156 3 [v0, v1, v2, v3, v4] (.int x :: st) G = mc_ev X 156 5 [v0, v1, v2, v3, .int x] st G) ∧
  (∀ (v1 v2 v3 v4 : Value) (x : Nat) (st : List Value) (G : mc_H), mc_ev X 156 7 [.ref x, v1, v2, v3, v4] st G = mc_ev X 156 8 [.ref x, v1, v2, v3, v4] (.ref x :: st) G) ∧
  (∀ (r : Nat) (ls st : List Value) (G : mc_H), st.length ≤ 4 → mc_cls G r = some 8 → mc_ev X 156 8 ls (.ref r :: st) G = (mc_ev X 132 0 [.ref r] [] G).bind (fun q => mc_ev X 156 11 ls (q.1.toList ++ st) q.2)) ∧
  (∀ (x y : Int32) (ls st : List Value) (G : mc_H), mc_ev X 156 11 ls (.int y :: .int x :: st) G = if x < y then mc_ev X 156 14 ls st G else mc_ev X 156 50 ls st G) ∧
  (∀ (v1 v2 v3 v4 : Value) (x : Nat) (st : List Value) (G : mc_H), mc_ev X 156 14 [.ref x, v1, v2, v3, v4] st G = mc_ev X 156 15 [.ref x, v1, v2, v3, v4] (.ref x :: st) G) ∧
  (∀ (v0 v1 v2 v3 : Value) (x : Int32) (st : List Value) (G : mc_H), mc_ev X 156 15 [v0, v1, v2, v3, .int x] st G = mc_ev X 156 17 [v0, v1, v2, v3, .int x] (.int x :: st) G) ∧
  (∀ (a0 : Int32) (r : Nat) (ls st : List Value) (G : mc_H), st.length ≤ 4 → mc_cls G r = some 8 → mc_ev X 156 17 ls (.int a0 :: .ref r :: st) G = (mc_ev X 131 0 [.ref r, .int a0, .null, .null] [] G).bind (fun q => mc_ev X 156 20 ls (q.1.toList ++ st) q.2)) ∧
  (∀ (x : Int32) (ls st : List Value) (G : mc_H), mc_ev X 156 20 ls (.int x :: st) G = if x = 0 then mc_ev X 156 44 ls st G else mc_ev X 156 23 ls st G) ∧
  (∀ (v1 v2 v3 v4 : Value) (x : Nat) (st : List Value) (G : mc_H), mc_ev X 156 23 [.ref x, v1, v2, v3, v4] st G = mc_ev X 156 24 [.ref x, v1, v2, v3, v4] (.ref x :: st) G) ∧
  (∀ (v0 v1 v2 v3 : Value) (x : Int32) (st : List Value) (G : mc_H), mc_ev X 156 24 [v0, v1, v2, v3, .int x] st G = mc_ev X 156 26 [v0, v1, v2, v3, .int x] (.int x :: st) G) ∧
  (∀ (a0 : Int32) (r : Nat) (ls st : List Value) (G : mc_H), st.length ≤ 4 → mc_cls G r = some 8 → mc_ev X 156 26 ls (.int a0 :: .ref r :: st) G = (mc_ev X 129 0 [.ref r, .int a0, .null, .null, .null, .null, .null] [] G).bind (fun q => mc_ev X 156 29 ls (q.1.toList ++ st) q.2)) ∧
  (∀ (v0 v2 v3 v4 : Value) (x : Int32) (st : List Value) (G : mc_H), mc_ev X 156 29 [v0, .int x, v2, v3, v4] st G = mc_ev X 156 30 [v0, .int x, v2, v3, v4] (.int x :: st) G) ∧
  (∀ (x y : Int32) (ls st : List Value) (G : mc_H), mc_ev X 156 30 ls (.int y :: .int x :: st) G = if x = y then mc_ev X 156 33 ls st G else mc_ev X 156 44 ls st G) ∧
  (∀ (v0 v1 v2 v4 : Value) (x : Int32) (st : List Value) (G : mc_H), mc_ev X 156 33 [v0, v1, v2, .int x, v4] st G = mc_ev X 156 34 [v0, v1, v2, .int x, v4] (.int x :: st) G) ∧
  (∀ (v0 v1 v3 v4 : Value) (x : Int32) (st : List Value) (G : mc_H), mc_ev X 156 34 [v0, v1, .int x, v3, v4] st G = mc_ev X 156 35 [v0, v1, .int x, v3, v4] (.int x :: st) G) ∧
  (∀ (x y : Int32) (ls st : List Value) (G : mc_H), mc_ev X 156 35 ls (.int y :: .int x :: st) G = if x = y then mc_ev X 156 38 ls st G else mc_ev X 156 41 ls st G) ∧
  (∀ (v0 v1 v2 v3 : Value) (x : Int32) (st : List Value) (G : mc_H), mc_ev X 156 38 [v0, v1, v2, v3, .int x] st G = mc_ev X 156 40 [v0, v1, v2, v3, .int x] (.int x :: st) G) ∧
  (∀ (v : Int32) (ls : List Value) (G : mc_H), mc_ev X 156 40 ls [.int v] G = some (some (.int v), G)) ∧
  (∀ (v0 v1 v2 v4 : Value) (x : Int32) (st : List Value) (G : mc_H), mc_ev X 156 41 [v0, v1, v2, .int x, v4] st G = mc_ev X 156 44 [v0, v1, v2, .int (x + 1), v4] st G) ∧
  (∀ (v0 v1 v2 v3 : Value) (x : Int32) (st : List Value) (G : mc_H), mc_ev X 156 44 [v0, v1, v2, v3, .int x] st G = mc_ev X 156 47 [v0, v1, v2, v3, .int (x + 1)] st G) ∧
  (∀ (ls st : List Value) (G : mc_H), mc_ev X 156 47 ls st G = mc_ev X 156 5 ls st G) ∧
  (∀ (v0 v1 v3 v4 : Value) (x : Int32) (st : List Value) (G : mc_H), mc_ev X 156 50 [v0, v1, .int x, v3, v4] st G = mc_ev X 156 51 [v0, v1, .int x, v3, v4] (.int x :: st) G) ∧
  (∀ (x : Int32) (ls st : List Value) (G : mc_H), mc_ev X 156 51 ls (.int x :: st) G = if x < 0 then mc_ev X 156 54 ls st G else mc_ev X 156 58 ls st G) ∧
  (∀ (v0 v1 v2 v4 : Value) (x : Int32) (st : List Value) (G : mc_H), mc_ev X 156 54 [v0, v1, v2, .int x, v4] st G = mc_ev X 156 55 [v0, v1, v2, .int x, v4] (.int x :: st) G) ∧
  (∀ (ls st : List Value) (G : mc_H), mc_ev X 156 55 ls st G = mc_ev X 156 60 ls st G) ∧
  (∀ (ls st : List Value) (G : mc_H), mc_ev X 156 58 ls st G = mc_ev X 156 60 ls (.int (-9) :: st) G) ∧
  (∀ (v : Int32) (ls : List Value) (G : mc_H), mc_ev X 156 60 ls [.int v] G = some (some (.int v), G)) := ⟨fun ls st G => ev_iconst rfl rfl,
  fun v0 v1 v2 v3 v4 x st G => ev_istore_n (X := X) (k := 156) (pc := 1) (ls := [v0, v1, v2, v3, v4]) (st := st) (G := G) (j := 3) (x := x) rfl (Nat.le_of_ble_eq_true rfl),
  fun ls st G => ev_iconst rfl rfl,
  fun v0 v1 v2 v3 v4 x st G => ev_istore (X := X) (k := 156) (pc := 3) (ls := [v0, v1, v2, v3, v4]) (st := st) (G := G) (j := 4) (x := x) rfl (Nat.le_of_ble_eq_true rfl),
  fun v1 v2 v3 v4 x st G => ev_aload_n rfl rfl,
  fun r ls st G hr hG => ev_virt (As := []) rfl rfl rfl rfl rfl rfl hr hG,
  fun x y ls st G => ev_br rfl rfl,
  fun v1 v2 v3 v4 x st G => ev_aload_n rfl rfl,
  fun v0 v1 v2 v3 x st G => ev_iload rfl rfl,
  fun a0 r ls st G hr hG => ev_virt (As := [.int a0]) rfl rfl rfl rfl rfl rfl hr hG,
  fun x ls st G => ev_br rfl rfl,
  fun v1 v2 v3 v4 x st G => ev_aload_n rfl rfl,
  fun v0 v1 v2 v3 x st G => ev_iload rfl rfl,
  fun a0 r ls st G hr hG => ev_virt (As := [.int a0]) rfl rfl rfl rfl rfl rfl hr hG,
  fun v0 v2 v3 v4 x st G => ev_iload_n rfl rfl,
  fun x y ls st G => ev_br rfl rfl,
  fun v0 v1 v2 v4 x st G => ev_iload_n rfl rfl,
  fun v0 v1 v3 v4 x st G => ev_iload_n rfl rfl,
  fun x y ls st G => ev_br rfl rfl,
  fun v0 v1 v2 v3 x st G => ev_iload rfl rfl,
  fun v ls G => ev_ireturn rfl rfl,
  fun v0 v1 v2 v4 x st G => ev_iinc (X := X) (k := 156) (pc := 41) (ls := [v0, v1, v2, .int x, v4]) (st := st) (G := G) (j := 3) (n := 1) (x := x) (v := 1) rfl rfl rfl,
  fun v0 v1 v2 v3 x st G => ev_iinc (X := X) (k := 156) (pc := 44) (ls := [v0, v1, v2, v3, .int x]) (st := st) (G := G) (j := 4) (n := 1) (x := x) (v := 1) rfl rfl rfl,
  fun ls st G => ev_goto rfl rfl,
  fun v0 v1 v3 v4 x st G => ev_iload_n rfl rfl,
  fun x ls st G => ev_br rfl rfl,
  fun v0 v1 v2 v4 x st G => ev_iload_n rfl rfl,
  fun ls st G => ev_goto rfl rfl,
  fun ls st G => ev_bipush rfl rfl,
  fun v ls G => ev_ireturn rfl rfl⟩
set_option maxRecDepth 100000 in
theorem e_157 {X : mc_X} : (∀ (x : Nat) (st : List Value) (G : mc_H), mc_ev X 157 0 [.ref x] st G = mc_ev X 157 1 [.ref x] (.ref x :: st) G) ∧
  (∀ (ls st : List Value) (G : mc_H), mc_ev X 157 1 ls st G = mc_ev X 157 2 ls (.int 0 :: st) G) ∧
  (∀ (v : Value) (r : Nat) (ls st : List Value) (G : mc_H), mc_ev X 157 2 ls (v :: .ref r :: st) G = (mc_setf G r 8 0 v).bind (fun G' => mc_ev X 157 5 ls st G')) ∧
  (∀ (x : Nat) (st : List Value) (G : mc_H), mc_ev X 157 5 [.ref x] st G = mc_ev X 157 6 [.ref x] (.ref x :: st) G) ∧
  (∀ (x : Nat) (st : List Value) (G : mc_H), mc_ev X 157 6 [.ref x] st G = mc_ev X 157 7 [.ref x] (.ref x :: st) G) ∧
  (∀ (r : Nat) (ls st : List Value) (G : mc_H), st.length ≤ 4 → mc_cls G r = some 8 → mc_ev X 157 7 ls (.ref r :: st) G = (mc_ev X 154 0 [.ref r, .null, .null, .null] [] G).bind (fun q => mc_ev X 157 10 ls (q.1.toList ++ st) q.2)) ∧
  (∀ (ls st : List Value) (G : mc_H), mc_ev X 157 10 ls st G = mc_ev X 157 11 ls (.int (-1) :: st) G) ∧
  (∀ (a0 : Int32) (a1 : Int32) (r : Nat) (ls st : List Value) (G : mc_H), st.length ≤ 4 → mc_cls G r = some 8 → mc_ev X 157 11 ls (.int a1 :: .int a0 :: .ref r :: st) G = (mc_ev X 156 0 [.ref r, .int a0, .int a1, .null, .null] [] G).bind (fun q => mc_ev X 157 14 ls (q.1.toList ++ st) q.2)) ∧
  (∀ (v : Int32) (ls : List Value) (G : mc_H), mc_ev X 157 14 ls [.int v] G = some (some (.int v), G)) := ⟨fun  x st G => ev_aload_n rfl rfl,
  fun ls st G => ev_iconst rfl rfl,
  fun v r ls st G => ev_putfield rfl,
  fun  x st G => ev_aload_n rfl rfl,
  fun  x st G => ev_aload_n rfl rfl,
  fun r ls st G hr hG => ev_virt (As := []) rfl rfl rfl rfl rfl rfl hr hG,
  fun ls st G => ev_iconst rfl rfl,
  fun a0 a1 r ls st G hr hG => ev_virt (As := [.int a0, .int a1]) rfl rfl rfl rfl rfl rfl hr hG,
  fun v ls G => ev_ireturn rfl rfl⟩
set_option maxRecDepth 100000 in
theorem e_158 {X : mc_X} : (∀ (v1 : Value) (x : Nat) (st : List Value) (G : mc_H), mc_ev X 158 0 [.ref x, v1] st G = mc_ev X 158 1 [.ref x, v1] (.ref x :: st) G) ∧
  (∀ (ls st : List Value) (G : mc_H), mc_ev X 158 1 ls st G = mc_ev X 158 2 ls (.int 0 :: st) G) ∧
  (∀ (v : Value) (r : Nat) (ls st : List Value) (G : mc_H), mc_ev X 158 2 ls (v :: .ref r :: st) G = (mc_setf G r 8 0 v).bind (fun G' => mc_ev X 158 5 ls st G')) ∧
  (∀ (v0 : Value) (x : Int32) (st : List Value) (G : mc_H), mc_ev X 158 5 [v0, .int x] st G = mc_ev X 158 6 [v0, .int x] (.int x :: st) G) ∧
  (∀ (x : Int32) (ls st : List Value) (G : mc_H), mc_ev X 158 6 ls (.int x :: st) G = if x < 0 then mc_ev X 158 9 ls st G else mc_ev X 158 13 ls st G) ∧
  (∀ (ls st : List Value) (G : mc_H), mc_ev X 158 9 ls st G = mc_ev X 158 10 ls (.int (-1) :: st) G) ∧
  (∀ (ls st : List Value) (G : mc_H), mc_ev X 158 10 ls st G = mc_ev X 158 22 ls st G) ∧
  (∀ (v1 : Value) (x : Nat) (st : List Value) (G : mc_H), mc_ev X 158 13 [.ref x, v1] st G = mc_ev X 158 14 [.ref x, v1] (.ref x :: st) G) ∧
  (∀ (v1 : Value) (x : Nat) (st : List Value) (G : mc_H), mc_ev X 158 14 [.ref x, v1] st G = mc_ev X 158 15 [.ref x, v1] (.ref x :: st) G) ∧
  (∀ (r : Nat) (ls st : List Value) (G : mc_H), st.length ≤ 4 → mc_cls G r = some 8 → mc_ev X 158 15 ls (.ref r :: st) G = (mc_ev X 154 0 [.ref r, .null, .null, .null] [] G).bind (fun q => mc_ev X 158 18 ls (q.1.toList ++ st) q.2)) ∧
  (∀ (v0 : Value) (x : Int32) (st : List Value) (G : mc_H), mc_ev X 158 18 [v0, .int x] st G = mc_ev X 158 19 [v0, .int x] (.int x :: st) G) ∧
  (∀ (a0 : Int32) (a1 : Int32) (r : Nat) (ls st : List Value) (G : mc_H), st.length ≤ 4 → mc_cls G r = some 8 → mc_ev X 158 19 ls (.int a1 :: .int a0 :: .ref r :: st) G = (mc_ev X 156 0 [.ref r, .int a0, .int a1, .null, .null] [] G).bind (fun q => mc_ev X 158 22 ls (q.1.toList ++ st) q.2)) ∧
  (∀ (v : Int32) (ls : List Value) (G : mc_H), mc_ev X 158 22 ls [.int v] G = some (some (.int v), G)) := ⟨fun v1 x st G => ev_aload_n rfl rfl,
  fun ls st G => ev_iconst rfl rfl,
  fun v r ls st G => ev_putfield rfl,
  fun v0 x st G => ev_iload_n rfl rfl,
  fun x ls st G => ev_br rfl rfl,
  fun ls st G => ev_iconst rfl rfl,
  fun ls st G => ev_goto rfl rfl,
  fun v1 x st G => ev_aload_n rfl rfl,
  fun v1 x st G => ev_aload_n rfl rfl,
  fun r ls st G hr hG => ev_virt (As := []) rfl rfl rfl rfl rfl rfl hr hG,
  fun v0 x st G => ev_iload_n rfl rfl,
  fun a0 a1 r ls st G hr hG => ev_virt (As := [.int a0, .int a1]) rfl rfl rfl rfl rfl rfl hr hG,
  fun v ls G => ev_ireturn rfl rfl⟩
set_option maxRecDepth 100000 in
theorem h_159_29 {X : mc_X} : ∀ (v0 v1 v2 v3 v4 v6 : Value) (x : Int32) (st : List Value) (G : mc_H), mc_ev X 159 29 [v0, v1, v2, v3, v4, .int x, v6] st G = mc_ev X 159 31 [v0, v1, v2, v3, v4, .int x, v6] (.int x :: st) G := fun v0 v1 v2 v3 v4 v6 x st G => ev_iload rfl rfl
set_option maxRecDepth 100000 in
theorem e_159 {X : mc_X} : (∀ (v1 v2 v3 v4 v5 v6 : Value) (x : Nat) (st : List Value) (G : mc_H), mc_ev X 159 0 [.ref x, v1, v2, v3, v4, v5, v6] st G = mc_ev X 159 1 [.ref x, v1, v2, v3, v4, v5, v6] (.ref x :: st) G) ∧
  (∀ (ls st : List Value) (G : mc_H), mc_ev X 159 1 ls st G = mc_ev X 159 2 ls (.int 0 :: st) G) ∧
  (∀ (v : Value) (r : Nat) (ls st : List Value) (G : mc_H), mc_ev X 159 2 ls (v :: .ref r :: st) G = (mc_setf G r 8 0 v).bind (fun G' => mc_ev X 159 5 ls st G')) ∧
  (∀ (v1 v2 v3 v4 v5 v6 : Value) (x : Nat) (st : List Value) (G : mc_H), mc_ev X 159 5 [.ref x, v1, v2, v3, v4, v5, v6] st G = mc_ev X 159 6 [.ref x, v1, v2, v3, v4, v5, v6] (.ref x :: st) G) ∧
  (∀ (v0 v2 v3 v4 v5 v6 : Value) (x : Int32) (st : List Value) (G : mc_H), mc_ev X 159 6 [v0, .int x, v2, v3, v4, v5, v6] st G = mc_ev X 159 7 [v0, .int x, v2, v3, v4, v5, v6] (.int x :: st) G) ∧
  (∀ (a0 : Int32) (r : Nat) (ls st : List Value) (G : mc_H), st.length ≤ 4 → mc_cls G r = some 8 → mc_ev X 159 7 ls (.int a0 :: .ref r :: st) G = (mc_ev X 118 0 [.ref r, .int a0] [] G).bind (fun q => mc_ev X 159 10 ls (q.1.toList ++ st) q.2)) ∧
  (∀ (x : Int32) (ls st : List Value) (G : mc_H), mc_ev X 159 10 ls (.int x :: st) G = if x = 0 then mc_ev X 159 13 ls st G else mc_ev X 159 16 ls st G) ∧
  (∀ (ls st : List Value) (G : mc_H), mc_ev X 159 13 ls st G = mc_ev X 159 15 ls (.int (-1000000) :: st) G) ∧
  (∀ (v : Int32) (ls : List Value) (G : mc_H), mc_ev X 159 15 ls [.int v] G = some (some (.int v), G)) ∧
  (∀ (v1 v2 v3 v4 v5 v6 : Value) (x : Nat) (st : List Value) (G : mc_H), mc_ev X 159 16 [.ref x, v1, v2, v3, v4, v5, v6] st G = mc_ev X 159 17 [.ref x, v1, v2, v3, v4, v5, v6] (.ref x :: st) G) ∧
  (∀ (r : Nat) (ls st : List Value) (G : mc_H), st.length ≤ 4 → mc_cls G r = some 8 → mc_ev X 159 17 ls (.ref r :: st) G = (mc_ev X 154 0 [.ref r, .null, .null, .null] [] G).bind (fun q => mc_ev X 159 20 ls (q.1.toList ++ st) q.2)) ∧
  (∀ (v0 v1 v2 v3 v4 v5 v6 : Value) (x : Int32) (st : List Value) (G : mc_H), mc_ev X 159 20 [v0, v1, v2, v3, v4, v5, v6] (.int x :: st) G = mc_ev X 159 21 [v0, v1, .int x, v3, v4, v5, v6] st G) ∧
  (∀ (ls st : List Value) (G : mc_H), mc_ev X 159 21 ls st G = mc_ev X 159 22 ls (.int 1 :: st) G) ∧
  (∀ (v0 v1 v2 v3 v4 v5 v6 : Value) (x : Int32) (st : List Value) (G : mc_H), mc_ev X 159 22 [v0, v1, v2, v3, v4, v5, v6] (.int x :: st) G = mc_ev X 159 23 [v0, v1, v2, .int x, v4, v5, v6] st G) ∧
  (∀ (ls st : List Value) (G : mc_H), mc_ev X 159 23 ls st G = mc_ev X 159 24 ls (.int 1 :: st) G) ∧
  (∀ (v0 v1 v2 v3 v4 v5 v6 : Value) (x : Int32) (st : List Value) (G : mc_H), mc_ev X 159 24 [v0, v1, v2, v3, v4, v5, v6] (.int x :: st) G = mc_ev X 159 26 [v0, v1, v2, v3, .int x, v5, v6] st G) ∧
  (∀ (ls st : List Value) (G : mc_H), mc_ev X 159 26 ls st G = mc_ev X 159 27 ls (.int 0 :: st) G) ∧
  (∀ (v0 v1 v2 v3 v4 v5 v6 : Value) (x : Int32) (st : List Value) (G : mc_H), mc_ev X 159 27 [v0, v1, v2, v3, v4, v5, v6] (.int x :: st) G = mc_ev X 159 29 [v0, v1, v2, v3, v4, .int x, v6] st G) ∧
  (∀ (v1 v2 v3 v4 v5 v6 : Value) (x : Nat) (st : List Value) (G : mc_H), mc_ev X 159 31 [.ref x, v1, v2, v3, v4, v5, v6] st G = mc_ev X 159 32 [.ref x, v1, v2, v3, v4, v5, v6] (.ref x :: st) G) ∧
  (∀ (r : Nat) (ls st : List Value) (G : mc_H), st.length ≤ 4 → mc_cls G r = some 8 → mc_ev X 159 32 ls (.ref r :: st) G = (mc_ev X 132 0 [.ref r] [] G).bind (fun q => mc_ev X 159 35 ls (q.1.toList ++ st) q.2)) ∧
  (∀ (x y : Int32) (ls st : List Value) (G : mc_H), mc_ev X 159 35 ls (.int y :: .int x :: st) G = if x < y then mc_ev X 159 38 ls st G else mc_ev X 159 123 ls st G) ∧
  (∀ (v1 v2 v3 v4 v5 v6 : Value) (x : Nat) (st : List Value) (G : mc_H), mc_ev X 159 38 [.ref x, v1, v2, v3, v4, v5, v6] st G = mc_ev X 159 39 [.ref x, v1, v2, v3, v4, v5, v6] (.ref x :: st) G) ∧
  (∀ (v0 v1 v2 v3 v4 v6 : Value) (x : Int32) (st : List Value) (G : mc_H), mc_ev X 159 39 [v0, v1, v2, v3, v4, .int x, v6] st G = mc_ev X 159 41 [v0, v1, v2, v3, v4, .int x, v6] (.int x :: st) G) ∧
  (∀ (a0 : Int32) (r : Nat) (ls st : List Value) (G : mc_H), st.length ≤ 4 → mc_cls G r = some 8 → mc_ev X 159 41 ls (.int a0 :: .ref r :: st) G = (mc_ev X 131 0 [.ref r, .int a0, .null, .null] [] G).bind (fun q => mc_ev X 159 44 ls (q.1.toList ++ st) q.2)) ∧
  (∀ (x : Int32) (ls st : List Value) (G : mc_H), mc_ev X 159 44 ls (.int x :: st) G = if x = 0 then mc_ev X 159 117 ls st G else mc_ev X 159 47 ls st G) ∧
  (∀ (v1 v2 v3 v4 v5 v6 : Value) (x : Nat) (st : List Value) (G : mc_H), mc_ev X 159 47 [.ref x, v1, v2, v3, v4, v5, v6] st G = mc_ev X 159 48 [.ref x, v1, v2, v3, v4, v5, v6] (.ref x :: st) G) ∧
  (∀ (v0 v1 v2 v3 v4 v6 : Value) (x : Int32) (st : List Value) (G : mc_H), mc_ev X 159 48 [v0, v1, v2, v3, v4, .int x, v6] st G = mc_ev X 159 50 [v0, v1, v2, v3, v4, .int x, v6] (.int x :: st) G) ∧
  (∀ (a0 : Int32) (r : Nat) (ls st : List Value) (G : mc_H), st.length ≤ 4 → mc_cls G r = some 8 → mc_ev X 159 50 ls (.int a0 :: .ref r :: st) G = (mc_ev X 129 0 [.ref r, .int a0, .null, .null, .null, .null, .null] [] G).bind (fun q => mc_ev X 159 53 ls (q.1.toList ++ st) q.2)) ∧
  (∀ (v0 v1 v3 v4 v5 v6 : Value) (x : Int32) (st : List Value) (G : mc_H), mc_ev X 159 53 [v0, v1, .int x, v3, v4, v5, v6] st G = mc_ev X 159 54 [v0, v1, .int x, v3, v4, v5, v6] (.int x :: st) G) ∧
  (∀ (x y : Int32) (ls st : List Value) (G : mc_H), mc_ev X 159 54 ls (.int y :: .int x :: st) G = if x = y then mc_ev X 159 57 ls st G else mc_ev X 159 117 ls st G) ∧
  (∀ (v0 v1 v2 v3 v4 v6 : Value) (x : Int32) (st : List Value) (G : mc_H), mc_ev X 159 57 [v0, v1, v2, v3, v4, .int x, v6] st G = mc_ev X 159 59 [v0, v1, v2, v3, v4, .int x, v6] (.int x :: st) G) ∧
  (∀ (v1 v2 v3 v4 v5 v6 : Value) (x : Nat) (st : List Value) (G : mc_H), mc_ev X 159 59 [.ref x, v1, v2, v3, v4, v5, v6] st G = mc_ev X 159 60 [.ref x, v1, v2, v3, v4, v5, v6] (.ref x :: st) G) ∧
  (∀ (v0 v2 v3 v4 v5 v6 : Value) (x : Int32) (st : List Value) (G : mc_H), mc_ev X 159 60 [v0, .int x, v2, v3, v4, v5, v6] st G = mc_ev X 159 61 [v0, .int x, v2, v3, v4, v5, v6] (.int x :: st) G) ∧
  (∀ (ls st : List Value) (G : mc_H), mc_ev X 159 61 ls st G = mc_ev X 159 62 ls (.int 0 :: st) G) ∧
  (∀ (a0 : Int32) (a1 : Int32) (r : Nat) (ls st : List Value) (G : mc_H), st.length ≤ 4 → mc_cls G r = some 8 → mc_ev X 159 62 ls (.int a1 :: .int a0 :: .ref r :: st) G = (mc_ev X 123 0 [.ref r, .int a0, .int a1, .null, .null] [] G).bind (fun q => mc_ev X 159 65 ls (q.1.toList ++ st) q.2)) ∧
  (∀ (v1 v2 v3 v4 v5 v6 : Value) (x : Nat) (st : List Value) (G : mc_H), mc_ev X 159 65 [.ref x, v1, v2, v3, v4, v5, v6] st G = mc_ev X 159 66 [.ref x, v1, v2, v3, v4, v5, v6] (.ref x :: st) G) ∧
  (∀ (r : Nat) (ls st : List Value) (G : mc_H), st.length ≤ 4 → mc_cls G r = some 8 → mc_ev X 159 66 ls (.ref r :: st) G = (mc_ev X 113 0 [.ref r] [] G).bind (fun q => mc_ev X 159 69 ls (q.1.toList ++ st) q.2)) ∧
  (∀ (a0 : Int32) (a1 : Int32) (a2 : Int32) (ls st : List Value) (G : mc_H), st.length ≤ 4 → mc_ev X 159 69 ls (.int a2 :: .int a1 :: .int a0 :: st) G = (mc_ev X 128 0 [.int a0, .int a1, .int a2] [] G).bind (fun q => mc_ev X 159 72 ls (q.1.toList ++ st) q.2)) ∧
  (∀ (v0 v1 v2 v3 v4 v6 : Value) (x : Int32) (st : List Value) (G : mc_H), mc_ev X 159 72 [v0, v1, v2, v3, v4, .int x, v6] st G = mc_ev X 159 74 [v0, v1, v2, v3, v4, .int x, v6] (.int x :: st) G) ∧
  (∀ (v1 v2 v3 v4 v5 v6 : Value) (x : Nat) (st : List Value) (G : mc_H), mc_ev X 159 74 [.ref x, v1, v2, v3, v4, v5, v6] st G = mc_ev X 159 75 [.ref x, v1, v2, v3, v4, v5, v6] (.ref x :: st) G) ∧
  (∀ (v0 v2 v3 v4 v5 v6 : Value) (x : Int32) (st : List Value) (G : mc_H), mc_ev X 159 75 [v0, .int x, v2, v3, v4, v5, v6] st G = mc_ev X 159 76 [v0, .int x, v2, v3, v4, v5, v6] (.int x :: st) G) ∧
  (∀ (ls st : List Value) (G : mc_H), mc_ev X 159 76 ls st G = mc_ev X 159 77 ls (.int 1 :: st) G) ∧
  (∀ (a0 : Int32) (a1 : Int32) (r : Nat) (ls st : List Value) (G : mc_H), st.length ≤ 4 → mc_cls G r = some 8 → mc_ev X 159 77 ls (.int a1 :: .int a0 :: .ref r :: st) G = (mc_ev X 123 0 [.ref r, .int a0, .int a1, .null, .null] [] G).bind (fun q => mc_ev X 159 80 ls (q.1.toList ++ st) q.2)) ∧
  (∀ (v1 v2 v3 v4 v5 v6 : Value) (x : Nat) (st : List Value) (G : mc_H), mc_ev X 159 80 [.ref x, v1, v2, v3, v4, v5, v6] st G = mc_ev X 159 81 [.ref x, v1, v2, v3, v4, v5, v6] (.ref x :: st) G) ∧
  (∀ (r : Nat) (ls st : List Value) (G : mc_H), st.length ≤ 4 → mc_cls G r = some 8 → mc_ev X 159 81 ls (.ref r :: st) G = (mc_ev X 113 0 [.ref r] [] G).bind (fun q => mc_ev X 159 84 ls (q.1.toList ++ st) q.2)) ∧
  (∀ (a0 : Int32) (a1 : Int32) (a2 : Int32) (ls st : List Value) (G : mc_H), st.length ≤ 4 → mc_ev X 159 84 ls (.int a2 :: .int a1 :: .int a0 :: st) G = (mc_ev X 128 0 [.int a0, .int a1, .int a2] [] G).bind (fun q => mc_ev X 159 87 ls (q.1.toList ++ st) q.2)) ∧
  (∀ (x y : Int32) (ls st : List Value) (G : mc_H), mc_ev X 159 87 ls (.int y :: .int x :: st) G = if x = y then mc_ev X 159 90 ls st G else mc_ev X 159 94 ls st G) ∧
  (∀ (ls st : List Value) (G : mc_H), mc_ev X 159 90 ls st G = mc_ev X 159 91 ls (.int 1 :: st) G) ∧
  (∀ (ls st : List Value) (G : mc_H), mc_ev X 159 91 ls st G = mc_ev X 159 95 ls st G) ∧
  (∀ (ls st : List Value) (G : mc_H), mc_ev X 159 94 ls st G = mc_ev X 159 95 ls (.int 0 :: st) G) ∧
  (∀ (v0 v1 v2 v3 v4 v5 v6 : Value) (x : Int32) (st : List Value) (G : mc_H), mc_ev X 159 95 [v0, v1, v2, v3, v4, v5, v6] (.int x :: st) G = mc_ev X 159 97 [v0, v1, v2, v3, v4, v5, .int x] st G) ∧
  (∀ (v0 v1 v2 v4 v5 v6 : Value) (x : Int32) (st : List Value) (G : mc_H), mc_ev X 159 97 [v0, v1, v2, .int x, v4, v5, v6] st G = mc_ev X 159 98 [v0, v1, v2, .int x, v4, v5, v6] (.int x :: st) G) ∧
  (∀ (v0 v1 v2 v3 v4 v5 : Value) (x : Int32) (st : List Value) (G : mc_H), mc_ev X 159 98 [v0, v1, v2, v3, v4, v5, .int x] st G = mc_ev X 159 100 [v0, v1, v2, v3, v4, v5, .int x] (.int x :: st) G) ∧
  (∀ (x y : Int32) (ls st : List Value) (G : mc_H), mc_ev X 159 100 ls (.int y :: .int x :: st) G = mc_ev X 159 101 ls (.int (x &&& y) :: st) G) ∧
  (∀ (v0 v1 v2 v3 v4 v5 v6 : Value) (x : Int32) (st : List Value) (G : mc_H), mc_ev X 159 101 [v0, v1, v2, v3, v4, v5, v6] (.int x :: st) G = mc_ev X 159 102 [v0, v1, v2, .int x, v4, v5, v6] st G) ∧
  (∀ (v0 v1 v2 v3 v5 v6 : Value) (x : Int32) (st : List Value) (G : mc_H), mc_ev X 159 102 [v0, v1, v2, v3, .int x, v5, v6] st G = mc_ev X 159 104 [v0, v1, v2, v3, .int x, v5, v6] (.int x :: st) G) ∧
  (∀ (v0 v1 v2 v3 v4 v5 : Value) (x : Int32) (st : List Value) (G : mc_H), mc_ev X 159 104 [v0, v1, v2, v3, v4, v5, .int x] st G = mc_ev X 159 106 [v0, v1, v2, v3, v4, v5, .int x] (.int x :: st) G) ∧
  (∀ (x : Int32) (ls st : List Value) (G : mc_H), mc_ev X 159 106 ls (.int x :: st) G = if x = 0 then mc_ev X 159 109 ls st G else mc_ev X 159 113 ls st G) ∧
  (∀ (ls st : List Value) (G : mc_H), mc_ev X 159 109 ls st G = mc_ev X 159 110 ls (.int 1 :: st) G) ∧
  (∀ (ls st : List Value) (G : mc_H), mc_ev X 159 110 ls st G = mc_ev X 159 114 ls st G) ∧
  (∀ (ls st : List Value) (G : mc_H), mc_ev X 159 113 ls st G = mc_ev X 159 114 ls (.int 0 :: st) G) ∧
  (∀ (x y : Int32) (ls st : List Value) (G : mc_H), mc_ev X 159 114 ls (.int y :: .int x :: st) G = mc_ev X 159 115 ls (.int (x &&& y) :: st) G) ∧
  (∀ (v0 v1 v2 v3 v4 v5 v6 : Value) (x : Int32) (st : List Value) (G : mc_H), mc_ev X 159 115 [v0, v1, v2, v3, v4, v5, v6] (.int x :: st) G = mc_ev X 159 117 [v0, v1, v2, v3, .int x, v5, v6] st G) ∧
  (∀ (v0 v1 v2 v3 v4 v6 : Value) (x : Int32) (st : List Value) (G : mc_H), mc_ev X 159 117 [v0, v1, v2, v3, v4, .int x, v6] st G = mc_ev X 159 120 [v0, v1, v2, v3, v4, .int (x + 1), v6] st G) ∧
  (∀ (ls st : List Value) (G : mc_H), mc_ev X 159 120 ls st G = mc_ev X 159 29 ls st G) ∧
  (∀ (v0 v1 v2 v4 v5 v6 : Value) (x : Int32) (st : List Value) (G : mc_H), mc_ev X 159 123 [v0, v1, v2, .int x, v4, v5, v6] st G = mc_ev X 159 124 [v0, v1, v2, .int x, v4, v5, v6] (.int x :: st) G) ∧
  (∀ (x : Int32) (ls st : List Value) (G : mc_H), mc_ev X 159 124 ls (.int x :: st) G = if x = 0 then mc_ev X 159 131 ls st G else mc_ev X 159 127 ls st G) ∧
  (∀ (ls st : List Value) (G : mc_H), mc_ev X 159 127 ls st G = mc_ev X 159 128 ls (.int 1 :: st) G) ∧
  (∀ (ls st : List Value) (G : mc_H), mc_ev X 159 128 ls st G = mc_ev X 159 141 ls st G) ∧
  (∀ (v0 v1 v2 v3 v5 v6 : Value) (x : Int32) (st : List Value) (G : mc_H), mc_ev X 159 131 [v0, v1, v2, v3, .int x, v5, v6] st G = mc_ev X 159 133 [v0, v1, v2, v3, .int x, v5, v6] (.int x :: st) G) ∧
  (∀ (x : Int32) (ls st : List Value) (G : mc_H), mc_ev X 159 133 ls (.int x :: st) G = if x = 0 then mc_ev X 159 140 ls st G else mc_ev X 159 136 ls st G) ∧
  (∀ (ls st : List Value) (G : mc_H), mc_ev X 159 136 ls st G = mc_ev X 159 137 ls (.int (-1) :: st) G) ∧
  (∀ (ls st : List Value) (G : mc_H), mc_ev X 159 137 ls st G = mc_ev X 159 141 ls st G) ∧
  (∀ (ls st : List Value) (G : mc_H), mc_ev X 159 140 ls st G = mc_ev X 159 141 ls (.int 0 :: st) G) ∧
  (∀ (v : Int32) (ls : List Value) (G : mc_H), mc_ev X 159 141 ls [.int v] G = some (some (.int v), G)) := ⟨fun v1 v2 v3 v4 v5 v6 x st G => ev_aload_n rfl rfl,
  fun ls st G => ev_iconst rfl rfl,
  fun v r ls st G => ev_putfield rfl,
  fun v1 v2 v3 v4 v5 v6 x st G => ev_aload_n rfl rfl,
  fun v0 v2 v3 v4 v5 v6 x st G => ev_iload_n rfl rfl,
  fun a0 r ls st G hr hG => ev_virt (As := [.int a0]) rfl rfl rfl rfl rfl rfl hr hG,
  fun x ls st G => ev_br rfl rfl,
  fun ls st G => ev_ldc rfl rfl,
  fun v ls G => ev_ireturn rfl rfl,
  fun v1 v2 v3 v4 v5 v6 x st G => ev_aload_n rfl rfl,
  fun r ls st G hr hG => ev_virt (As := []) rfl rfl rfl rfl rfl rfl hr hG,
  fun v0 v1 v2 v3 v4 v5 v6 x st G => ev_istore_n (X := X) (k := 159) (pc := 20) (ls := [v0, v1, v2, v3, v4, v5, v6]) (st := st) (G := G) (j := 2) (x := x) rfl (Nat.le_of_ble_eq_true rfl),
  fun ls st G => ev_iconst rfl rfl,
  fun v0 v1 v2 v3 v4 v5 v6 x st G => ev_istore_n (X := X) (k := 159) (pc := 22) (ls := [v0, v1, v2, v3, v4, v5, v6]) (st := st) (G := G) (j := 3) (x := x) rfl (Nat.le_of_ble_eq_true rfl),
  fun ls st G => ev_iconst rfl rfl,
  fun v0 v1 v2 v3 v4 v5 v6 x st G => ev_istore (X := X) (k := 159) (pc := 24) (ls := [v0, v1, v2, v3, v4, v5, v6]) (st := st) (G := G) (j := 4) (x := x) rfl (Nat.le_of_ble_eq_true rfl),
  fun ls st G => ev_iconst rfl rfl,
  fun v0 v1 v2 v3 v4 v5 v6 x st G => ev_istore (X := X) (k := 159) (pc := 27) (ls := [v0, v1, v2, v3, v4, v5, v6]) (st := st) (G := G) (j := 5) (x := x) rfl (Nat.le_of_ble_eq_true rfl),
  fun v1 v2 v3 v4 v5 v6 x st G => ev_aload_n rfl rfl,
  fun r ls st G hr hG => ev_virt (As := []) rfl rfl rfl rfl rfl rfl hr hG,
  fun x y ls st G => ev_br rfl rfl,
  fun v1 v2 v3 v4 v5 v6 x st G => ev_aload_n rfl rfl,
  fun v0 v1 v2 v3 v4 v6 x st G => ev_iload rfl rfl,
  fun a0 r ls st G hr hG => ev_virt (As := [.int a0]) rfl rfl rfl rfl rfl rfl hr hG,
  fun x ls st G => ev_br rfl rfl,
  fun v1 v2 v3 v4 v5 v6 x st G => ev_aload_n rfl rfl,
  fun v0 v1 v2 v3 v4 v6 x st G => ev_iload rfl rfl,
  fun a0 r ls st G hr hG => ev_virt (As := [.int a0]) rfl rfl rfl rfl rfl rfl hr hG,
  fun v0 v1 v3 v4 v5 v6 x st G => ev_iload_n rfl rfl,
  fun x y ls st G => ev_br rfl rfl,
  fun v0 v1 v2 v3 v4 v6 x st G => ev_iload rfl rfl,
  fun v1 v2 v3 v4 v5 v6 x st G => ev_aload_n rfl rfl,
  fun v0 v2 v3 v4 v5 v6 x st G => ev_iload_n rfl rfl,
  fun ls st G => ev_iconst rfl rfl,
  fun a0 a1 r ls st G hr hG => ev_virt (As := [.int a0, .int a1]) rfl rfl rfl rfl rfl rfl hr hG,
  fun v1 v2 v3 v4 v5 v6 x st G => ev_aload_n rfl rfl,
  fun r ls st G hr hG => ev_virt (As := []) rfl rfl rfl rfl rfl rfl hr hG,
  fun a0 a1 a2 ls st G hr => ev_stat (As := [.int a0, .int a1, .int a2]) rfl (by decide) rfl rfl rfl rfl hr,
  fun v0 v1 v2 v3 v4 v6 x st G => ev_iload rfl rfl,
  fun v1 v2 v3 v4 v5 v6 x st G => ev_aload_n rfl rfl,
  fun v0 v2 v3 v4 v5 v6 x st G => ev_iload_n rfl rfl,
  fun ls st G => ev_iconst rfl rfl,
  fun a0 a1 r ls st G hr hG => ev_virt (As := [.int a0, .int a1]) rfl rfl rfl rfl rfl rfl hr hG,
  fun v1 v2 v3 v4 v5 v6 x st G => ev_aload_n rfl rfl,
  fun r ls st G hr hG => ev_virt (As := []) rfl rfl rfl rfl rfl rfl hr hG,
  fun a0 a1 a2 ls st G hr => ev_stat (As := [.int a0, .int a1, .int a2]) rfl (by decide) rfl rfl rfl rfl hr,
  fun x y ls st G => ev_br rfl rfl,
  fun ls st G => ev_iconst rfl rfl,
  fun ls st G => ev_goto rfl rfl,
  fun ls st G => ev_iconst rfl rfl,
  fun v0 v1 v2 v3 v4 v5 v6 x st G => ev_istore (X := X) (k := 159) (pc := 95) (ls := [v0, v1, v2, v3, v4, v5, v6]) (st := st) (G := G) (j := 6) (x := x) rfl (Nat.le_of_ble_eq_true rfl),
  fun v0 v1 v2 v4 v5 v6 x st G => ev_iload_n rfl rfl,
  fun v0 v1 v2 v3 v4 v5 x st G => ev_iload rfl rfl,
  fun x y ls st G => ev_iand rfl,
  fun v0 v1 v2 v3 v4 v5 v6 x st G => ev_istore_n (X := X) (k := 159) (pc := 101) (ls := [v0, v1, v2, v3, v4, v5, v6]) (st := st) (G := G) (j := 3) (x := x) rfl (Nat.le_of_ble_eq_true rfl),
  fun v0 v1 v2 v3 v5 v6 x st G => ev_iload rfl rfl,
  fun v0 v1 v2 v3 v4 v5 x st G => ev_iload rfl rfl,
  fun x ls st G => ev_br rfl rfl,
  fun ls st G => ev_iconst rfl rfl,
  fun ls st G => ev_goto rfl rfl,
  fun ls st G => ev_iconst rfl rfl,
  fun x y ls st G => ev_iand rfl,
  fun v0 v1 v2 v3 v4 v5 v6 x st G => ev_istore (X := X) (k := 159) (pc := 115) (ls := [v0, v1, v2, v3, v4, v5, v6]) (st := st) (G := G) (j := 4) (x := x) rfl (Nat.le_of_ble_eq_true rfl),
  fun v0 v1 v2 v3 v4 v6 x st G => ev_iinc (X := X) (k := 159) (pc := 117) (ls := [v0, v1, v2, v3, v4, .int x, v6]) (st := st) (G := G) (j := 5) (n := 1) (x := x) (v := 1) rfl rfl rfl,
  fun ls st G => ev_goto rfl rfl,
  fun v0 v1 v2 v4 v5 v6 x st G => ev_iload_n rfl rfl,
  fun x ls st G => ev_br rfl rfl,
  fun ls st G => ev_iconst rfl rfl,
  fun ls st G => ev_goto rfl rfl,
  fun v0 v1 v2 v3 v5 v6 x st G => ev_iload rfl rfl,
  fun x ls st G => ev_br rfl rfl,
  fun ls st G => ev_iconst rfl rfl,
  fun ls st G => ev_goto rfl rfl,
  fun ls st G => ev_iconst rfl rfl,
  fun v ls G => ev_ireturn rfl rfl⟩
set_option maxRecDepth 100000 in
theorem e_160 {X : mc_X} : (∀ (v1 : Value) (x : Nat) (st : List Value) (G : mc_H), mc_ev X 160 0 [.ref x, v1] st G = mc_ev X 160 1 [.ref x, v1] (.ref x :: st) G) ∧
  (∀ (ls st : List Value) (G : mc_H), mc_ev X 160 1 ls st G = mc_ev X 160 2 ls (.int 0 :: st) G) ∧
  (∀ (v : Value) (r : Nat) (ls st : List Value) (G : mc_H), mc_ev X 160 2 ls (v :: .ref r :: st) G = (mc_setf G r 8 0 v).bind (fun G' => mc_ev X 160 5 ls st G')) ∧
  (∀ (v0 : Value) (x : Int32) (st : List Value) (G : mc_H), mc_ev X 160 5 [v0, .int x] st G = mc_ev X 160 6 [v0, .int x] (.int x :: st) G) ∧
  (∀ (x : Int32) (ls st : List Value) (G : mc_H), mc_ev X 160 6 ls (.int x :: st) G = if x < 0 then mc_ev X 160 9 ls st G else mc_ev X 160 13 ls st G) ∧
  (∀ (ls st : List Value) (G : mc_H), mc_ev X 160 9 ls st G = mc_ev X 160 10 ls (.int (-1) :: st) G) ∧
  (∀ (ls st : List Value) (G : mc_H), mc_ev X 160 10 ls st G = mc_ev X 160 19 ls st G) ∧
  (∀ (v1 : Value) (x : Nat) (st : List Value) (G : mc_H), mc_ev X 160 13 [.ref x, v1] st G = mc_ev X 160 14 [.ref x, v1] (.ref x :: st) G) ∧
  (∀ (v0 : Value) (x : Int32) (st : List Value) (G : mc_H), mc_ev X 160 14 [v0, .int x] st G = mc_ev X 160 15 [v0, .int x] (.int x :: st) G) ∧
  (∀ (ls st : List Value) (G : mc_H), mc_ev X 160 15 ls st G = mc_ev X 160 16 ls (.int (-1) :: st) G) ∧
  (∀ (a0 : Int32) (a1 : Int32) (r : Nat) (ls st : List Value) (G : mc_H), st.length ≤ 4 → mc_cls G r = some 8 → mc_ev X 160 16 ls (.int a1 :: .int a0 :: .ref r :: st) G = (mc_ev X 156 0 [.ref r, .int a0, .int a1, .null, .null] [] G).bind (fun q => mc_ev X 160 19 ls (q.1.toList ++ st) q.2)) ∧
  (∀ (v : Int32) (ls : List Value) (G : mc_H), mc_ev X 160 19 ls [.int v] G = some (some (.int v), G)) := ⟨fun v1 x st G => ev_aload_n rfl rfl,
  fun ls st G => ev_iconst rfl rfl,
  fun v r ls st G => ev_putfield rfl,
  fun v0 x st G => ev_iload_n rfl rfl,
  fun x ls st G => ev_br rfl rfl,
  fun ls st G => ev_iconst rfl rfl,
  fun ls st G => ev_goto rfl rfl,
  fun v1 x st G => ev_aload_n rfl rfl,
  fun v0 x st G => ev_iload_n rfl rfl,
  fun ls st G => ev_iconst rfl rfl,
  fun a0 a1 r ls st G hr hG => ev_virt (As := [.int a0, .int a1]) rfl rfl rfl rfl rfl rfl hr hG,
  fun v ls G => ev_ireturn rfl rfl⟩
set_option maxRecDepth 100000 in
theorem e_161 {X : mc_X} : (∀ (v1 v2 : Value) (x : Nat) (st : List Value) (G : mc_H), mc_ev X 161 0 [.ref x, v1, v2] st G = mc_ev X 161 1 [.ref x, v1, v2] (.ref x :: st) G) ∧
  (∀ (ls st : List Value) (G : mc_H), mc_ev X 161 1 ls st G = mc_ev X 161 2 ls (.int 0 :: st) G) ∧
  (∀ (v : Value) (r : Nat) (ls st : List Value) (G : mc_H), mc_ev X 161 2 ls (v :: .ref r :: st) G = (mc_setf G r 8 0 v).bind (fun G' => mc_ev X 161 5 ls st G')) ∧
  (∀ (v0 v2 : Value) (x : Int32) (st : List Value) (G : mc_H), mc_ev X 161 5 [v0, .int x, v2] st G = mc_ev X 161 6 [v0, .int x, v2] (.int x :: st) G) ∧
  (∀ (x : Int32) (ls st : List Value) (G : mc_H), mc_ev X 161 6 ls (.int x :: st) G = if x < 0 then mc_ev X 161 13 ls st G else mc_ev X 161 9 ls st G) ∧
  (∀ (v0 v1 : Value) (x : Int32) (st : List Value) (G : mc_H), mc_ev X 161 9 [v0, v1, .int x] st G = mc_ev X 161 10 [v0, v1, .int x] (.int x :: st) G) ∧
  (∀ (x : Int32) (ls st : List Value) (G : mc_H), mc_ev X 161 10 ls (.int x :: st) G = if x < 0 then mc_ev X 161 13 ls st G else mc_ev X 161 17 ls st G) ∧
  (∀ (ls st : List Value) (G : mc_H), mc_ev X 161 13 ls st G = mc_ev X 161 14 ls (.int (-1) :: st) G) ∧
  (∀ (ls st : List Value) (G : mc_H), mc_ev X 161 14 ls st G = mc_ev X 161 23 ls st G) ∧
  (∀ (v1 v2 : Value) (x : Nat) (st : List Value) (G : mc_H), mc_ev X 161 17 [.ref x, v1, v2] st G = mc_ev X 161 18 [.ref x, v1, v2] (.ref x :: st) G) ∧
  (∀ (v0 v2 : Value) (x : Int32) (st : List Value) (G : mc_H), mc_ev X 161 18 [v0, .int x, v2] st G = mc_ev X 161 19 [v0, .int x, v2] (.int x :: st) G) ∧
  (∀ (v0 v1 : Value) (x : Int32) (st : List Value) (G : mc_H), mc_ev X 161 19 [v0, v1, .int x] st G = mc_ev X 161 20 [v0, v1, .int x] (.int x :: st) G) ∧
  (∀ (a0 : Int32) (a1 : Int32) (r : Nat) (ls st : List Value) (G : mc_H), st.length ≤ 4 → mc_cls G r = some 8 → mc_ev X 161 20 ls (.int a1 :: .int a0 :: .ref r :: st) G = (mc_ev X 156 0 [.ref r, .int a0, .int a1, .null, .null] [] G).bind (fun q => mc_ev X 161 23 ls (q.1.toList ++ st) q.2)) ∧
  (∀ (v : Int32) (ls : List Value) (G : mc_H), mc_ev X 161 23 ls [.int v] G = some (some (.int v), G)) := ⟨fun v1 v2 x st G => ev_aload_n rfl rfl,
  fun ls st G => ev_iconst rfl rfl,
  fun v r ls st G => ev_putfield rfl,
  fun v0 v2 x st G => ev_iload_n rfl rfl,
  fun x ls st G => ev_br rfl rfl,
  fun v0 v1 x st G => ev_iload_n rfl rfl,
  fun x ls st G => ev_br rfl rfl,
  fun ls st G => ev_iconst rfl rfl,
  fun ls st G => ev_goto rfl rfl,
  fun v1 v2 x st G => ev_aload_n rfl rfl,
  fun v0 v2 x st G => ev_iload_n rfl rfl,
  fun v0 v1 x st G => ev_iload_n rfl rfl,
  fun a0 a1 r ls st G hr hG => ev_virt (As := [.int a0, .int a1]) rfl rfl rfl rfl rfl rfl hr hG,
  fun v ls G => ev_ireturn rfl rfl⟩
set_option maxRecDepth 100000 in
theorem h_162_10 {X : mc_X} : ∀ (v0 v1 v2 v4 : Value) (x : Int32) (st : List Value) (G : mc_H), mc_ev X 162 10 [v0, v1, v2, .int x, v4] st G = mc_ev X 162 11 [v0, v1, v2, .int x, v4] (.int x :: st) G := fun v0 v1 v2 v4 x st G => ev_iload_n rfl rfl
set_option maxRecDepth 100000 in
theorem e_162 {X : mc_X} : (∀ (v1 v2 v3 v4 : Value) (x : Nat) (st : List Value) (G : mc_H), mc_ev X 162 0 [.ref x, v1, v2, v3, v4] st G = mc_ev X 162 1 [.ref x, v1, v2, v3, v4] (.ref x :: st) G) ∧
  (∀ (ls st : List Value) (G : mc_H), mc_ev X 162 1 ls st G = mc_ev X 162 2 ls (.int 0 :: st) G) ∧
  (∀ (v : Value) (r : Nat) (ls st : List Value) (G : mc_H), mc_ev X 162 2 ls (v :: .ref r :: st) G = (mc_setf G r 8 0 v).bind (fun G' => mc_ev X 162 5 ls st G')) ∧
  (∀ (ls st : List Value) (G : mc_H), mc_ev X 162 5 ls st G = mc_ev X 162 7 ls (.int (-9) :: st) G) ∧
  (∀ (v0 v1 v2 v3 v4 : Value) (x : Int32) (st : List Value) (G : mc_H), mc_ev X 162 7 [v0, v1, v2, v3, v4] (.int x :: st) G = mc_ev X 162 8 [v0, v1, .int x, v3, v4] st G) ∧
  (∀ (ls st : List Value) (G : mc_H), mc_ev X 162 8 ls st G = mc_ev X 162 9 ls (.int 0 :: st) G) ∧
  (∀ (v0 v1 v2 v3 v4 : Value) (x : Int32) (st : List Value) (G : mc_H), mc_ev X 162 9 [v0, v1, v2, v3, v4] (.int x :: st) G = mc_ev X 162 10 [v0, v1, v2, .int x, v4] st G) ∧
  (∀ (v1 v2 v3 v4 : Value) (x : Nat) (st : List Value) (G : mc_H), mc_ev X 162 11 [.ref x, v1, v2, v3, v4] st G = mc_ev X 162 12 [.ref x, v1, v2, v3, v4] (.ref x :: st) G) ∧
  (∀ (r : Nat) (ls st : List Value) (G : mc_H), st.length ≤ 4 → mc_cls G r = some 8 → mc_ev X 162 12 ls (.ref r :: st) G = (mc_ev X 132 0 [.ref r] [] G).bind (fun q => mc_ev X 162 15 ls (q.1.toList ++ st) q.2)) ∧
  (∀ (x y : Int32) (ls st : List Value) (G : mc_H), mc_ev X 162 15 ls (.int y :: .int x :: st) G = if x < y then mc_ev X 162 18 ls st G else mc_ev X 162 64 ls st G) ∧
  (∀ (v1 v2 v3 v4 : Value) (x : Nat) (st : List Value) (G : mc_H), mc_ev X 162 18 [.ref x, v1, v2, v3, v4] st G = mc_ev X 162 19 [.ref x, v1, v2, v3, v4] (.ref x :: st) G) ∧
  (∀ (v0 v1 v2 v4 : Value) (x : Int32) (st : List Value) (G : mc_H), mc_ev X 162 19 [v0, v1, v2, .int x, v4] st G = mc_ev X 162 20 [v0, v1, v2, .int x, v4] (.int x :: st) G) ∧
  (∀ (a0 : Int32) (r : Nat) (ls st : List Value) (G : mc_H), st.length ≤ 4 → mc_cls G r = some 8 → mc_ev X 162 20 ls (.int a0 :: .ref r :: st) G = (mc_ev X 131 0 [.ref r, .int a0, .null, .null] [] G).bind (fun q => mc_ev X 162 23 ls (q.1.toList ++ st) q.2)) ∧
  (∀ (x : Int32) (ls st : List Value) (G : mc_H), mc_ev X 162 23 ls (.int x :: st) G = if x = 0 then mc_ev X 162 58 ls st G else mc_ev X 162 26 ls st G) ∧
  (∀ (v1 v2 v3 v4 : Value) (x : Nat) (st : List Value) (G : mc_H), mc_ev X 162 26 [.ref x, v1, v2, v3, v4] st G = mc_ev X 162 27 [.ref x, v1, v2, v3, v4] (.ref x :: st) G) ∧
  (∀ (v0 v1 v2 v4 : Value) (x : Int32) (st : List Value) (G : mc_H), mc_ev X 162 27 [v0, v1, v2, .int x, v4] st G = mc_ev X 162 28 [v0, v1, v2, .int x, v4] (.int x :: st) G) ∧
  (∀ (a0 : Int32) (r : Nat) (ls st : List Value) (G : mc_H), st.length ≤ 4 → mc_cls G r = some 8 → mc_ev X 162 28 ls (.int a0 :: .ref r :: st) G = (mc_ev X 129 0 [.ref r, .int a0, .null, .null, .null, .null, .null] [] G).bind (fun q => mc_ev X 162 31 ls (q.1.toList ++ st) q.2)) ∧
  (∀ (v0 v1 v2 v3 v4 : Value) (x : Int32) (st : List Value) (G : mc_H), mc_ev X 162 31 [v0, v1, v2, v3, v4] (.int x :: st) G = mc_ev X 162 33 [v0, v1, v2, v3, .int x] st G) ∧
  (∀ (v0 v1 v2 v3 : Value) (x : Int32) (st : List Value) (G : mc_H), mc_ev X 162 33 [v0, v1, v2, v3, .int x] st G = mc_ev X 162 35 [v0, v1, v2, v3, .int x] (.int x :: st) G) ∧
  (∀ (v0 v2 v3 v4 : Value) (x : Int32) (st : List Value) (G : mc_H), mc_ev X 162 35 [v0, .int x, v2, v3, v4] st G = mc_ev X 162 36 [v0, .int x, v2, v3, v4] (.int x :: st) G) ∧
  (∀ (x y : Int32) (ls st : List Value) (G : mc_H), mc_ev X 162 36 ls (.int y :: .int x :: st) G = if y < x then mc_ev X 162 39 ls st G else mc_ev X 162 56 ls st G) ∧
  (∀ (v0 v1 v3 v4 : Value) (x : Int32) (st : List Value) (G : mc_H), mc_ev X 162 39 [v0, v1, .int x, v3, v4] st G = mc_ev X 162 40 [v0, v1, .int x, v3, v4] (.int x :: st) G) ∧
  (∀ (ls st : List Value) (G : mc_H), mc_ev X 162 40 ls st G = mc_ev X 162 42 ls (.int (-9) :: st) G) ∧
  (∀ (x y : Int32) (ls st : List Value) (G : mc_H), mc_ev X 162 42 ls (.int y :: .int x :: st) G = if x = y then mc_ev X 162 51 ls st G else mc_ev X 162 45 ls st G) ∧
  (∀ (v0 v1 v2 v3 : Value) (x : Int32) (st : List Value) (G : mc_H), mc_ev X 162 45 [v0, v1, v2, v3, .int x] st G = mc_ev X 162 47 [v0, v1, v2, v3, .int x] (.int x :: st) G) ∧
  (∀ (v0 v1 v3 v4 : Value) (x : Int32) (st : List Value) (G : mc_H), mc_ev X 162 47 [v0, v1, .int x, v3, v4] st G = mc_ev X 162 48 [v0, v1, .int x, v3, v4] (.int x :: st) G) ∧
  (∀ (x y : Int32) (ls st : List Value) (G : mc_H), mc_ev X 162 48 ls (.int y :: .int x :: st) G = if x < y then mc_ev X 162 51 ls st G else mc_ev X 162 56 ls st G) ∧
  (∀ (v0 v1 v2 v3 : Value) (x : Int32) (st : List Value) (G : mc_H), mc_ev X 162 51 [v0, v1, v2, v3, .int x] st G = mc_ev X 162 53 [v0, v1, v2, v3, .int x] (.int x :: st) G) ∧
  (∀ (ls st : List Value) (G : mc_H), mc_ev X 162 53 ls st G = mc_ev X 162 57 ls st G) ∧
  (∀ (v0 v1 v3 v4 : Value) (x : Int32) (st : List Value) (G : mc_H), mc_ev X 162 56 [v0, v1, .int x, v3, v4] st G = mc_ev X 162 57 [v0, v1, .int x, v3, v4] (.int x :: st) G) ∧
  (∀ (v0 v1 v2 v3 v4 : Value) (x : Int32) (st : List Value) (G : mc_H), mc_ev X 162 57 [v0, v1, v2, v3, v4] (.int x :: st) G = mc_ev X 162 58 [v0, v1, .int x, v3, v4] st G) ∧
  (∀ (v0 v1 v2 v4 : Value) (x : Int32) (st : List Value) (G : mc_H), mc_ev X 162 58 [v0, v1, v2, .int x, v4] st G = mc_ev X 162 61 [v0, v1, v2, .int (x + 1), v4] st G) ∧
  (∀ (ls st : List Value) (G : mc_H), mc_ev X 162 61 ls st G = mc_ev X 162 10 ls st G) ∧
  (∀ (v0 v1 v3 v4 : Value) (x : Int32) (st : List Value) (G : mc_H), mc_ev X 162 64 [v0, v1, .int x, v3, v4] st G = mc_ev X 162 65 [v0, v1, .int x, v3, v4] (.int x :: st) G) ∧
  (∀ (v : Int32) (ls : List Value) (G : mc_H), mc_ev X 162 65 ls [.int v] G = some (some (.int v), G)) := ⟨fun v1 v2 v3 v4 x st G => ev_aload_n rfl rfl,
  fun ls st G => ev_iconst rfl rfl,
  fun v r ls st G => ev_putfield rfl,
  fun ls st G => ev_bipush rfl rfl,
  fun v0 v1 v2 v3 v4 x st G => ev_istore_n (X := X) (k := 162) (pc := 7) (ls := [v0, v1, v2, v3, v4]) (st := st) (G := G) (j := 2) (x := x) rfl (Nat.le_of_ble_eq_true rfl),
  fun ls st G => ev_iconst rfl rfl,
  fun v0 v1 v2 v3 v4 x st G => ev_istore_n (X := X) (k := 162) (pc := 9) (ls := [v0, v1, v2, v3, v4]) (st := st) (G := G) (j := 3) (x := x) rfl (Nat.le_of_ble_eq_true rfl),
  fun v1 v2 v3 v4 x st G => ev_aload_n rfl rfl,
  fun r ls st G hr hG => ev_virt (As := []) rfl rfl rfl rfl rfl rfl hr hG,
  fun x y ls st G => ev_br rfl rfl,
  fun v1 v2 v3 v4 x st G => ev_aload_n rfl rfl,
  fun v0 v1 v2 v4 x st G => ev_iload_n rfl rfl,
  fun a0 r ls st G hr hG => ev_virt (As := [.int a0]) rfl rfl rfl rfl rfl rfl hr hG,
  fun x ls st G => ev_br rfl rfl,
  fun v1 v2 v3 v4 x st G => ev_aload_n rfl rfl,
  fun v0 v1 v2 v4 x st G => ev_iload_n rfl rfl,
  fun a0 r ls st G hr hG => ev_virt (As := [.int a0]) rfl rfl rfl rfl rfl rfl hr hG,
  fun v0 v1 v2 v3 v4 x st G => ev_istore (X := X) (k := 162) (pc := 31) (ls := [v0, v1, v2, v3, v4]) (st := st) (G := G) (j := 4) (x := x) rfl (Nat.le_of_ble_eq_true rfl),
  fun v0 v1 v2 v3 x st G => ev_iload rfl rfl,
  fun v0 v2 v3 v4 x st G => ev_iload_n rfl rfl,
  fun x y ls st G => ev_br rfl rfl,
  fun v0 v1 v3 v4 x st G => ev_iload_n rfl rfl,
  fun ls st G => ev_bipush rfl rfl,
  fun x y ls st G => ev_br rfl rfl,
  fun v0 v1 v2 v3 x st G => ev_iload rfl rfl,
  fun v0 v1 v3 v4 x st G => ev_iload_n rfl rfl,
  fun x y ls st G => ev_br rfl rfl,
  fun v0 v1 v2 v3 x st G => ev_iload rfl rfl,
  fun ls st G => ev_goto rfl rfl,
  fun v0 v1 v3 v4 x st G => ev_iload_n rfl rfl,
  fun v0 v1 v2 v3 v4 x st G => ev_istore_n (X := X) (k := 162) (pc := 57) (ls := [v0, v1, v2, v3, v4]) (st := st) (G := G) (j := 2) (x := x) rfl (Nat.le_of_ble_eq_true rfl),
  fun v0 v1 v2 v4 x st G => ev_iinc (X := X) (k := 162) (pc := 58) (ls := [v0, v1, v2, .int x, v4]) (st := st) (G := G) (j := 3) (n := 1) (x := x) (v := 1) rfl rfl rfl,
  fun ls st G => ev_goto rfl rfl,
  fun v0 v1 v3 v4 x st G => ev_iload_n rfl rfl,
  fun v ls G => ev_ireturn rfl rfl⟩
set_option maxRecDepth 100000 in
theorem e_163 {X : mc_X} : (∀ (v1 : Value) (x : Nat) (st : List Value) (G : mc_H), mc_ev X 163 0 [.ref x, v1] st G = mc_ev X 163 1 [.ref x, v1] (.ref x :: st) G) ∧
  (∀ (v0 : Value) (x : Int32) (st : List Value) (G : mc_H), mc_ev X 163 1 [v0, .int x] st G = mc_ev X 163 2 [v0, .int x] (.int x :: st) G) ∧
  (∀ (v : Value) (r : Nat) (ls st : List Value) (G : mc_H), mc_ev X 163 2 ls (v :: .ref r :: st) G = (mc_setf G r 8 1 v).bind (fun G' => mc_ev X 163 5 ls st G')) ∧
  (∀ (v0 : Value) (x : Int32) (st : List Value) (G : mc_H), mc_ev X 163 5 [v0, .int x] st G = mc_ev X 163 6 [v0, .int x] (.int x :: st) G) ∧
  (∀ (v : Int32) (ls : List Value) (G : mc_H), mc_ev X 163 6 ls [.int v] G = some (some (.int v), G)) := ⟨fun v1 x st G => ev_aload_n rfl rfl,
  fun v0 x st G => ev_iload_n rfl rfl,
  fun v r ls st G => ev_putfield rfl,
  fun v0 x st G => ev_iload_n rfl rfl,
  fun v ls G => ev_ireturn rfl rfl⟩
set_option maxRecDepth 100000 in
theorem h_164_74 {X : mc_X} : ∀ (v0 v1 v2 v3 : Value) (x : Int32) (st : List Value) (G : mc_H), mc_ev X 164 74 [v0, v1, v2, v3, .int x] st G = mc_ev X 164 76 [v0, v1, v2, v3, .int x] (.int x :: st) G := fun v0 v1 v2 v3 x st G => ev_iload rfl rfl
set_option maxRecDepth 100000 in
theorem e_164 {X : mc_X} : (∀ (v1 v2 v3 v4 : Value) (x : Nat) (st : List Value) (G : mc_H), mc_ev X 164 0 [.ref x, v1, v2, v3, v4] st G = mc_ev X 164 1 [.ref x, v1, v2, v3, v4] (.ref x :: st) G) ∧
  (∀ (ls st : List Value) (G : mc_H), mc_ev X 164 1 ls st G = mc_ev X 164 2 ls (.int 0 :: st) G) ∧
  (∀ (v : Value) (r : Nat) (ls st : List Value) (G : mc_H), mc_ev X 164 2 ls (v :: .ref r :: st) G = (mc_setf G r 8 0 v).bind (fun G' => mc_ev X 164 5 ls st G')) ∧
  (∀ (v1 v2 v3 v4 : Value) (x : Nat) (st : List Value) (G : mc_H), mc_ev X 164 5 [.ref x, v1, v2, v3, v4] st G = mc_ev X 164 6 [.ref x, v1, v2, v3, v4] (.ref x :: st) G) ∧
  (∀ (ls st : List Value) (G : mc_H), mc_ev X 164 6 ls st G = mc_ev X 164 7 ls (.int 0 :: st) G) ∧
  (∀ (v : Value) (r : Nat) (ls st : List Value) (G : mc_H), mc_ev X 164 7 ls (v :: .ref r :: st) G = (mc_setf G r 8 1 v).bind (fun G' => mc_ev X 164 10 ls st G')) ∧
  (∀ (v0 v2 v3 v4 : Value) (x : Int32) (st : List Value) (G : mc_H), mc_ev X 164 10 [v0, .int x, v2, v3, v4] st G = mc_ev X 164 11 [v0, .int x, v2, v3, v4] (.int x :: st) G) ∧
  (∀ (ls st : List Value) (G : mc_H), mc_ev X 164 11 ls st G = mc_ev X 164 12 ls (.int 0 :: st) G) ∧
  (∀ (ls st : List Value) (G : mc_H), mc_ev X 164 12 ls st G = mc_ev X 164 13 ls (.int 3 :: st) G) ∧
  (∀ (a0 : Int32) (a1 : Int32) (a2 : Int32) (ls st : List Value) (G : mc_H), st.length ≤ 4 → mc_ev X 164 13 ls (.int a2 :: .int a1 :: .int a0 :: st) G = (mc_ev X 112 0 [.int a0, .int a1, .int a2] [] G).bind (fun q => mc_ev X 164 16 ls (q.1.toList ++ st) q.2)) ∧
  (∀ (x : Int32) (ls st : List Value) (G : mc_H), mc_ev X 164 16 ls (.int x :: st) G = if x = 0 then mc_ev X 164 33 ls st G else mc_ev X 164 19 ls st G) ∧
  (∀ (v0 v1 v3 v4 : Value) (x : Int32) (st : List Value) (G : mc_H), mc_ev X 164 19 [v0, v1, .int x, v3, v4] st G = mc_ev X 164 20 [v0, v1, .int x, v3, v4] (.int x :: st) G) ∧
  (∀ (ls st : List Value) (G : mc_H), mc_ev X 164 20 ls st G = mc_ev X 164 21 ls (.int 0 :: st) G) ∧
  (∀ (ls st : List Value) (G : mc_H), mc_ev X 164 21 ls st G = mc_ev X 164 22 ls (.int 2 :: st) G) ∧
  (∀ (a0 : Int32) (a1 : Int32) (a2 : Int32) (ls st : List Value) (G : mc_H), st.length ≤ 4 → mc_ev X 164 22 ls (.int a2 :: .int a1 :: .int a0 :: st) G = (mc_ev X 112 0 [.int a0, .int a1, .int a2] [] G).bind (fun q => mc_ev X 164 25 ls (q.1.toList ++ st) q.2)) ∧
  (∀ (x : Int32) (ls st : List Value) (G : mc_H), mc_ev X 164 25 ls (.int x :: st) G = if x = 0 then mc_ev X 164 33 ls st G else mc_ev X 164 28 ls st G) ∧
  (∀ (v0 v1 v2 v4 : Value) (x : Int32) (st : List Value) (G : mc_H), mc_ev X 164 28 [v0, v1, v2, .int x, v4] st G = mc_ev X 164 29 [v0, v1, v2, .int x, v4] (.int x :: st) G) ∧
  (∀ (ls st : List Value) (G : mc_H), mc_ev X 164 29 ls st G = mc_ev X 164 30 ls (.int 4 :: st) G) ∧
  (∀ (x y : Int32) (ls st : List Value) (G : mc_H), mc_ev X 164 30 ls (.int y :: .int x :: st) G = if y < x then mc_ev X 164 33 ls st G else mc_ev X 164 39 ls st G) ∧
  (∀ (v1 v2 v3 v4 : Value) (x : Nat) (st : List Value) (G : mc_H), mc_ev X 164 33 [.ref x, v1, v2, v3, v4] st G = mc_ev X 164 34 [.ref x, v1, v2, v3, v4] (.ref x :: st) G) ∧
  (∀ (ls st : List Value) (G : mc_H), mc_ev X 164 34 ls st G = mc_ev X 164 35 ls (.int (-1) :: st) G) ∧
  (∀ (a0 : Int32) (r : Nat) (ls st : List Value) (G : mc_H), st.length ≤ 4 → mc_cls G r = some 8 → mc_ev X 164 35 ls (.int a0 :: .ref r :: st) G = (mc_ev X 163 0 [.ref r, .int a0] [] G).bind (fun q => mc_ev X 164 38 ls (q.1.toList ++ st) q.2)) ∧
  (∀ (v : Int32) (ls : List Value) (G : mc_H), mc_ev X 164 38 ls [.int v] G = some (some (.int v), G)) ∧
  (∀ (v0 v1 v2 v4 : Value) (x : Int32) (st : List Value) (G : mc_H), mc_ev X 164 39 [v0, v1, v2, .int x, v4] st G = mc_ev X 164 40 [v0, v1, v2, .int x, v4] (.int x :: st) G) ∧
  (∀ (x : Int32) (ls st : List Value) (G : mc_H), mc_ev X 164 40 ls (.int x :: st) G = if x < 0 then mc_ev X 164 43 ls st G else mc_ev X 164 50 ls st G) ∧
  (∀ (v1 v2 v3 v4 : Value) (x : Nat) (st : List Value) (G : mc_H), mc_ev X 164 43 [.ref x, v1, v2, v3, v4] st G = mc_ev X 164 44 [.ref x, v1, v2, v3, v4] (.ref x :: st) G) ∧
  (∀ (ls st : List Value) (G : mc_H), mc_ev X 164 44 ls st G = mc_ev X 164 46 ls (.int (-15) :: st) G) ∧
  (∀ (a0 : Int32) (r : Nat) (ls st : List Value) (G : mc_H), st.length ≤ 4 → mc_cls G r = some 8 → mc_ev X 164 46 ls (.int a0 :: .ref r :: st) G = (mc_ev X 163 0 [.ref r, .int a0] [] G).bind (fun q => mc_ev X 164 49 ls (q.1.toList ++ st) q.2)) ∧
  (∀ (v : Int32) (ls : List Value) (G : mc_H), mc_ev X 164 49 ls [.int v] G = some (some (.int v), G)) ∧
  (∀ (v1 v2 v3 v4 : Value) (x : Nat) (st : List Value) (G : mc_H), mc_ev X 164 50 [.ref x, v1, v2, v3, v4] st G = mc_ev X 164 51 [.ref x, v1, v2, v3, v4] (.ref x :: st) G) ∧
  (∀ (r : Nat) (ls st : List Value) (G : mc_H), mc_ev X 164 51 ls (.ref r :: st) G = (mc_getf G r 8 12).bind (fun v => mc_ev X 164 54 ls (v :: st) G)) ∧
  (∀ (v0 v2 v3 v4 : Value) (x : Int32) (st : List Value) (G : mc_H), mc_ev X 164 54 [v0, .int x, v2, v3, v4] st G = mc_ev X 164 55 [v0, .int x, v2, v3, v4] (.int x :: st) G) ∧
  (∀ (ls st : List Value) (G : mc_H), mc_ev X 164 55 ls st G = mc_ev X 164 56 ls (.int 1 :: st) G) ∧
  (∀ (x i : Int32) (r : Nat) (ls st : List Value) (G : mc_H), mc_ev X 164 56 ls (.int x :: .int i :: .ref r :: st) G = (mc_setA G 1 r i (vp_nar .boolean x)).bind (fun G' => mc_ev X 164 57 ls st G')) ∧
  (∀ (v1 v2 v3 v4 : Value) (x : Nat) (st : List Value) (G : mc_H), mc_ev X 164 57 [.ref x, v1, v2, v3, v4] st G = mc_ev X 164 58 [.ref x, v1, v2, v3, v4] (.ref x :: st) G) ∧
  (∀ (r : Nat) (ls st : List Value) (G : mc_H), mc_ev X 164 58 ls (.ref r :: st) G = (mc_getf G r 8 13).bind (fun v => mc_ev X 164 61 ls (v :: st) G)) ∧
  (∀ (v0 v2 v3 v4 : Value) (x : Int32) (st : List Value) (G : mc_H), mc_ev X 164 61 [v0, .int x, v2, v3, v4] st G = mc_ev X 164 62 [v0, .int x, v2, v3, v4] (.int x :: st) G) ∧
  (∀ (v0 v1 v3 v4 : Value) (x : Int32) (st : List Value) (G : mc_H), mc_ev X 164 62 [v0, v1, .int x, v3, v4] st G = mc_ev X 164 63 [v0, v1, .int x, v3, v4] (.int x :: st) G) ∧
  (∀ (x i : Int32) (r : Nat) (ls st : List Value) (G : mc_H), mc_ev X 164 63 ls (.int x :: .int i :: .ref r :: st) G = (mc_setA G 0 r i x).bind (fun G' => mc_ev X 164 64 ls st G')) ∧
  (∀ (v1 v2 v3 v4 : Value) (x : Nat) (st : List Value) (G : mc_H), mc_ev X 164 64 [.ref x, v1, v2, v3, v4] st G = mc_ev X 164 65 [.ref x, v1, v2, v3, v4] (.ref x :: st) G) ∧
  (∀ (r : Nat) (ls st : List Value) (G : mc_H), mc_ev X 164 65 ls (.ref r :: st) G = (mc_getf G r 8 14).bind (fun v => mc_ev X 164 68 ls (v :: st) G)) ∧
  (∀ (v0 v2 v3 v4 : Value) (x : Int32) (st : List Value) (G : mc_H), mc_ev X 164 68 [v0, .int x, v2, v3, v4] st G = mc_ev X 164 69 [v0, .int x, v2, v3, v4] (.int x :: st) G) ∧
  (∀ (v0 v1 v2 v4 : Value) (x : Int32) (st : List Value) (G : mc_H), mc_ev X 164 69 [v0, v1, v2, .int x, v4] st G = mc_ev X 164 70 [v0, v1, v2, .int x, v4] (.int x :: st) G) ∧
  (∀ (x i : Int32) (r : Nat) (ls st : List Value) (G : mc_H), mc_ev X 164 70 ls (.int x :: .int i :: .ref r :: st) G = (mc_setA G 0 r i x).bind (fun G' => mc_ev X 164 71 ls st G')) ∧
  (∀ (ls st : List Value) (G : mc_H), mc_ev X 164 71 ls st G = mc_ev X 164 72 ls (.int 0 :: st) G) ∧
  (∀ (v0 v1 v2 v3 v4 : Value) (x : Int32) (st : List Value) (G : mc_H), mc_ev X 164 72 [v0, v1, v2, v3, v4] (.int x :: st) G = mc_ev X 164 74 [v0, v1, v2, v3, .int x] st G) ∧
  (∀ (ls st : List Value) (G : mc_H), mc_ev X 164 76 ls st G = mc_ev X 164 77 ls (.int 4 :: st) G) ∧
  (∀ (x y : Int32) (ls st : List Value) (G : mc_H), mc_ev X 164 77 ls (.int y :: .int x :: st) G = if x < y then mc_ev X 164 80 ls st G else mc_ev X 164 99 ls st G) ∧
  (∀ (v1 v2 v3 v4 : Value) (x : Nat) (st : List Value) (G : mc_H), mc_ev X 164 80 [.ref x, v1, v2, v3, v4] st G = mc_ev X 164 81 [.ref x, v1, v2, v3, v4] (.ref x :: st) G) ∧
  (∀ (r : Nat) (ls st : List Value) (G : mc_H), mc_ev X 164 81 ls (.ref r :: st) G = (mc_getf G r 8 15).bind (fun v => mc_ev X 164 84 ls (v :: st) G)) ∧
  (∀ (ls st : List Value) (G : mc_H), mc_ev X 164 84 ls st G = mc_ev X 164 85 ls (.int 4 :: st) G) ∧
  (∀ (v0 v2 v3 v4 : Value) (x : Int32) (st : List Value) (G : mc_H), mc_ev X 164 85 [v0, .int x, v2, v3, v4] st G = mc_ev X 164 86 [v0, .int x, v2, v3, v4] (.int x :: st) G) ∧
  (∀ (x y : Int32) (ls st : List Value) (G : mc_H), mc_ev X 164 86 ls (.int y :: .int x :: st) G = mc_ev X 164 87 ls (.int (x * y) :: st) G) ∧
  (∀ (v0 v1 v2 v3 : Value) (x : Int32) (st : List Value) (G : mc_H), mc_ev X 164 87 [v0, v1, v2, v3, .int x] st G = mc_ev X 164 89 [v0, v1, v2, v3, .int x] (.int x :: st) G) ∧
  (∀ (x y : Int32) (ls st : List Value) (G : mc_H), mc_ev X 164 89 ls (.int y :: .int x :: st) G = mc_ev X 164 90 ls (.int (x + y) :: st) G) ∧
  (∀ (ls st : List Value) (G : mc_H), mc_ev X 164 90 ls st G = mc_ev X 164 92 ls (.int (-9) :: st) G) ∧
  (∀ (x i : Int32) (r : Nat) (ls st : List Value) (G : mc_H), mc_ev X 164 92 ls (.int x :: .int i :: .ref r :: st) G = (mc_setA G 0 r i x).bind (fun G' => mc_ev X 164 93 ls st G')) ∧
  (∀ (v0 v1 v2 v3 : Value) (x : Int32) (st : List Value) (G : mc_H), mc_ev X 164 93 [v0, v1, v2, v3, .int x] st G = mc_ev X 164 96 [v0, v1, v2, v3, .int (x + 1)] st G) ∧
  (∀ (ls st : List Value) (G : mc_H), mc_ev X 164 96 ls st G = mc_ev X 164 74 ls st G) ∧
  (∀ (ls st : List Value) (G : mc_H), mc_ev X 164 99 ls st G = mc_ev X 164 100 ls (.int 1 :: st) G) ∧
  (∀ (v : Int32) (ls : List Value) (G : mc_H), mc_ev X 164 100 ls [.int v] G = some (some (.int v), G)) := ⟨fun v1 v2 v3 v4 x st G => ev_aload_n rfl rfl,
  fun ls st G => ev_iconst rfl rfl,
  fun v r ls st G => ev_putfield rfl,
  fun v1 v2 v3 v4 x st G => ev_aload_n rfl rfl,
  fun ls st G => ev_iconst rfl rfl,
  fun v r ls st G => ev_putfield rfl,
  fun v0 v2 v3 v4 x st G => ev_iload_n rfl rfl,
  fun ls st G => ev_iconst rfl rfl,
  fun ls st G => ev_iconst rfl rfl,
  fun a0 a1 a2 ls st G hr => ev_stat (As := [.int a0, .int a1, .int a2]) rfl (by decide) rfl rfl rfl rfl hr,
  fun x ls st G => ev_br rfl rfl,
  fun v0 v1 v3 v4 x st G => ev_iload_n rfl rfl,
  fun ls st G => ev_iconst rfl rfl,
  fun ls st G => ev_iconst rfl rfl,
  fun a0 a1 a2 ls st G hr => ev_stat (As := [.int a0, .int a1, .int a2]) rfl (by decide) rfl rfl rfl rfl hr,
  fun x ls st G => ev_br rfl rfl,
  fun v0 v1 v2 v4 x st G => ev_iload_n rfl rfl,
  fun ls st G => ev_iconst rfl rfl,
  fun x y ls st G => ev_br rfl rfl,
  fun v1 v2 v3 v4 x st G => ev_aload_n rfl rfl,
  fun ls st G => ev_iconst rfl rfl,
  fun a0 r ls st G hr hG => ev_virt (As := [.int a0]) rfl rfl rfl rfl rfl rfl hr hG,
  fun v ls G => ev_ireturn rfl rfl,
  fun v0 v1 v2 v4 x st G => ev_iload_n rfl rfl,
  fun x ls st G => ev_br rfl rfl,
  fun v1 v2 v3 v4 x st G => ev_aload_n rfl rfl,
  fun ls st G => ev_bipush rfl rfl,
  fun a0 r ls st G hr hG => ev_virt (As := [.int a0]) rfl rfl rfl rfl rfl rfl hr hG,
  fun v ls G => ev_ireturn rfl rfl,
  fun v1 v2 v3 v4 x st G => ev_aload_n rfl rfl,
  fun r ls st G => ev_getfield rfl,
  fun v0 v2 v3 v4 x st G => ev_iload_n rfl rfl,
  fun ls st G => ev_iconst rfl rfl,
  fun x i r ls st G => ev_bastore rfl,
  fun v1 v2 v3 v4 x st G => ev_aload_n rfl rfl,
  fun r ls st G => ev_getfield rfl,
  fun v0 v2 v3 v4 x st G => ev_iload_n rfl rfl,
  fun v0 v1 v3 v4 x st G => ev_iload_n rfl rfl,
  fun x i r ls st G => ev_iastore rfl,
  fun v1 v2 v3 v4 x st G => ev_aload_n rfl rfl,
  fun r ls st G => ev_getfield rfl,
  fun v0 v2 v3 v4 x st G => ev_iload_n rfl rfl,
  fun v0 v1 v2 v4 x st G => ev_iload_n rfl rfl,
  fun x i r ls st G => ev_iastore rfl,
  fun ls st G => ev_iconst rfl rfl,
  fun v0 v1 v2 v3 v4 x st G => ev_istore (X := X) (k := 164) (pc := 72) (ls := [v0, v1, v2, v3, v4]) (st := st) (G := G) (j := 4) (x := x) rfl (Nat.le_of_ble_eq_true rfl),
  fun ls st G => ev_iconst rfl rfl,
  fun x y ls st G => ev_br rfl rfl,
  fun v1 v2 v3 v4 x st G => ev_aload_n rfl rfl,
  fun r ls st G => ev_getfield rfl,
  fun ls st G => ev_iconst rfl rfl,
  fun v0 v2 v3 v4 x st G => ev_iload_n rfl rfl,
  fun x y ls st G => ev_imul rfl,
  fun v0 v1 v2 v3 x st G => ev_iload rfl rfl,
  fun x y ls st G => ev_iadd rfl,
  fun ls st G => ev_bipush rfl rfl,
  fun x i r ls st G => ev_iastore rfl,
  fun v0 v1 v2 v3 x st G => ev_iinc (X := X) (k := 164) (pc := 93) (ls := [v0, v1, v2, v3, .int x]) (st := st) (G := G) (j := 4) (n := 1) (x := x) (v := 1) rfl rfl rfl,
  fun ls st G => ev_goto rfl rfl,
  fun ls st G => ev_iconst rfl rfl,
  fun v ls G => ev_ireturn rfl rfl⟩
set_option maxRecDepth 100000 in
theorem h_165_95 {X : mc_X} : ∀ (v0 v1 v2 v3 : Value) (x : Int32) (st : List Value) (G : mc_H), mc_ev X 165 95 [v0, v1, v2, v3, .int x] st G = mc_ev X 165 97 [v0, v1, v2, v3, .int x] (.int x :: st) G := fun v0 v1 v2 v3 x st G => ev_iload rfl rfl
set_option maxRecDepth 100000 in
theorem e_165 {X : mc_X} : (∀ (v1 v2 v3 v4 : Value) (x : Nat) (st : List Value) (G : mc_H), mc_ev X 165 0 [.ref x, v1, v2, v3, v4] st G = mc_ev X 165 1 [.ref x, v1, v2, v3, v4] (.ref x :: st) G) ∧
  (∀ (ls st : List Value) (G : mc_H), mc_ev X 165 1 ls st G = mc_ev X 165 2 ls (.int 0 :: st) G) ∧
  (∀ (v : Value) (r : Nat) (ls st : List Value) (G : mc_H), mc_ev X 165 2 ls (v :: .ref r :: st) G = (mc_setf G r 8 0 v).bind (fun G' => mc_ev X 165 5 ls st G')) ∧
  (∀ (v1 v2 v3 v4 : Value) (x : Nat) (st : List Value) (G : mc_H), mc_ev X 165 5 [.ref x, v1, v2, v3, v4] st G = mc_ev X 165 6 [.ref x, v1, v2, v3, v4] (.ref x :: st) G) ∧
  (∀ (ls st : List Value) (G : mc_H), mc_ev X 165 6 ls st G = mc_ev X 165 7 ls (.int 0 :: st) G) ∧
  (∀ (v : Value) (r : Nat) (ls st : List Value) (G : mc_H), mc_ev X 165 7 ls (v :: .ref r :: st) G = (mc_setf G r 8 1 v).bind (fun G' => mc_ev X 165 10 ls st G')) ∧
  (∀ (v0 v2 v3 v4 : Value) (x : Int32) (st : List Value) (G : mc_H), mc_ev X 165 10 [v0, .int x, v2, v3, v4] st G = mc_ev X 165 11 [v0, .int x, v2, v3, v4] (.int x :: st) G) ∧
  (∀ (ls st : List Value) (G : mc_H), mc_ev X 165 11 ls st G = mc_ev X 165 12 ls (.int 0 :: st) G) ∧
  (∀ (ls st : List Value) (G : mc_H), mc_ev X 165 12 ls st G = mc_ev X 165 13 ls (.int 3 :: st) G) ∧
  (∀ (a0 : Int32) (a1 : Int32) (a2 : Int32) (ls st : List Value) (G : mc_H), st.length ≤ 4 → mc_ev X 165 13 ls (.int a2 :: .int a1 :: .int a0 :: st) G = (mc_ev X 112 0 [.int a0, .int a1, .int a2] [] G).bind (fun q => mc_ev X 165 16 ls (q.1.toList ++ st) q.2)) ∧
  (∀ (x : Int32) (ls st : List Value) (G : mc_H), mc_ev X 165 16 ls (.int x :: st) G = if x = 0 then mc_ev X 165 25 ls st G else mc_ev X 165 19 ls st G) ∧
  (∀ (v0 v1 v2 v4 : Value) (x : Int32) (st : List Value) (G : mc_H), mc_ev X 165 19 [v0, v1, v2, .int x, v4] st G = mc_ev X 165 20 [v0, v1, v2, .int x, v4] (.int x :: st) G) ∧
  (∀ (ls st : List Value) (G : mc_H), mc_ev X 165 20 ls st G = mc_ev X 165 22 ls (.int 12 :: st) G) ∧
  (∀ (x y : Int32) (ls st : List Value) (G : mc_H), mc_ev X 165 22 ls (.int y :: .int x :: st) G = if y < x then mc_ev X 165 25 ls st G else mc_ev X 165 31 ls st G) ∧
  (∀ (v1 v2 v3 v4 : Value) (x : Nat) (st : List Value) (G : mc_H), mc_ev X 165 25 [.ref x, v1, v2, v3, v4] st G = mc_ev X 165 26 [.ref x, v1, v2, v3, v4] (.ref x :: st) G) ∧
  (∀ (ls st : List Value) (G : mc_H), mc_ev X 165 26 ls st G = mc_ev X 165 27 ls (.int (-1) :: st) G) ∧
  (∀ (a0 : Int32) (r : Nat) (ls st : List Value) (G : mc_H), st.length ≤ 4 → mc_cls G r = some 8 → mc_ev X 165 27 ls (.int a0 :: .ref r :: st) G = (mc_ev X 163 0 [.ref r, .int a0] [] G).bind (fun q => mc_ev X 165 30 ls (q.1.toList ++ st) q.2)) ∧
  (∀ (v : Int32) (ls : List Value) (G : mc_H), mc_ev X 165 30 ls [.int v] G = some (some (.int v), G)) ∧
  (∀ (v1 v2 v3 v4 : Value) (x : Nat) (st : List Value) (G : mc_H), mc_ev X 165 31 [.ref x, v1, v2, v3, v4] st G = mc_ev X 165 32 [.ref x, v1, v2, v3, v4] (.ref x :: st) G) ∧
  (∀ (r : Nat) (ls st : List Value) (G : mc_H), mc_ev X 165 32 ls (.ref r :: st) G = (mc_getf G r 8 12).bind (fun v => mc_ev X 165 35 ls (v :: st) G)) ∧
  (∀ (v0 v2 v3 v4 : Value) (x : Int32) (st : List Value) (G : mc_H), mc_ev X 165 35 [v0, .int x, v2, v3, v4] st G = mc_ev X 165 36 [v0, .int x, v2, v3, v4] (.int x :: st) G) ∧
  (∀ (i : Int32) (r : Value) (ls st : List Value) (G : mc_H), mc_ev X 165 36 ls (.int i :: r :: st) G = (mc_getA X G 1 r i).bind (fun x => mc_ev X 165 37 ls (.int x :: st) G)) ∧
  (∀ (x : Int32) (ls st : List Value) (G : mc_H), mc_ev X 165 37 ls (.int x :: st) G = if x = 0 then mc_ev X 165 40 ls st G else mc_ev X 165 47 ls st G) ∧
  (∀ (v1 v2 v3 v4 : Value) (x : Nat) (st : List Value) (G : mc_H), mc_ev X 165 40 [.ref x, v1, v2, v3, v4] st G = mc_ev X 165 41 [.ref x, v1, v2, v3, v4] (.ref x :: st) G) ∧
  (∀ (ls st : List Value) (G : mc_H), mc_ev X 165 41 ls st G = mc_ev X 165 43 ls (.int (-11) :: st) G) ∧
  (∀ (a0 : Int32) (r : Nat) (ls st : List Value) (G : mc_H), st.length ≤ 4 → mc_cls G r = some 8 → mc_ev X 165 43 ls (.int a0 :: .ref r :: st) G = (mc_ev X 163 0 [.ref r, .int a0] [] G).bind (fun q => mc_ev X 165 46 ls (q.1.toList ++ st) q.2)) ∧
  (∀ (v : Int32) (ls : List Value) (G : mc_H), mc_ev X 165 46 ls [.int v] G = some (some (.int v), G)) ∧
  (∀ (v0 v1 v3 v4 : Value) (x : Int32) (st : List Value) (G : mc_H), mc_ev X 165 47 [v0, v1, .int x, v3, v4] st G = mc_ev X 165 48 [v0, v1, .int x, v3, v4] (.int x :: st) G) ∧
  (∀ (ls st : List Value) (G : mc_H), mc_ev X 165 48 ls st G = mc_ev X 165 49 ls (.int 0 :: st) G) ∧
  (∀ (v1 v2 v3 v4 : Value) (x : Nat) (st : List Value) (G : mc_H), mc_ev X 165 49 [.ref x, v1, v2, v3, v4] st G = mc_ev X 165 50 [.ref x, v1, v2, v3, v4] (.ref x :: st) G) ∧
  (∀ (r : Nat) (ls st : List Value) (G : mc_H), mc_ev X 165 50 ls (.ref r :: st) G = (mc_getf G r 8 14).bind (fun v => mc_ev X 165 53 ls (v :: st) G)) ∧
  (∀ (v0 v2 v3 v4 : Value) (x : Int32) (st : List Value) (G : mc_H), mc_ev X 165 53 [v0, .int x, v2, v3, v4] st G = mc_ev X 165 54 [v0, .int x, v2, v3, v4] (.int x :: st) G) ∧
  (∀ (i : Int32) (r : Value) (ls st : List Value) (G : mc_H), mc_ev X 165 54 ls (.int i :: r :: st) G = (mc_getA X G 0 r i).bind (fun x => mc_ev X 165 55 ls (.int x :: st) G)) ∧
  (∀ (ls st : List Value) (G : mc_H), mc_ev X 165 55 ls st G = mc_ev X 165 56 ls (.int 1 :: st) G) ∧
  (∀ (x y : Int32) (ls st : List Value) (G : mc_H), mc_ev X 165 56 ls (.int y :: .int x :: st) G = mc_ev X 165 57 ls (.int (x - y) :: st) G) ∧
  (∀ (a0 : Int32) (a1 : Int32) (a2 : Int32) (ls st : List Value) (G : mc_H), st.length ≤ 4 → mc_ev X 165 57 ls (.int a2 :: .int a1 :: .int a0 :: st) G = (mc_ev X 112 0 [.int a0, .int a1, .int a2] [] G).bind (fun q => mc_ev X 165 60 ls (q.1.toList ++ st) q.2)) ∧
  (∀ (x : Int32) (ls st : List Value) (G : mc_H), mc_ev X 165 60 ls (.int x :: st) G = if x = 0 then mc_ev X 165 63 ls st G else mc_ev X 165 70 ls st G) ∧
  (∀ (v1 v2 v3 v4 : Value) (x : Nat) (st : List Value) (G : mc_H), mc_ev X 165 63 [.ref x, v1, v2, v3, v4] st G = mc_ev X 165 64 [.ref x, v1, v2, v3, v4] (.ref x :: st) G) ∧
  (∀ (ls st : List Value) (G : mc_H), mc_ev X 165 64 ls st G = mc_ev X 165 66 ls (.int (-12) :: st) G) ∧
  (∀ (a0 : Int32) (r : Nat) (ls st : List Value) (G : mc_H), st.length ≤ 4 → mc_cls G r = some 8 → mc_ev X 165 66 ls (.int a0 :: .ref r :: st) G = (mc_ev X 163 0 [.ref r, .int a0] [] G).bind (fun q => mc_ev X 165 69 ls (q.1.toList ++ st) q.2)) ∧
  (∀ (v : Int32) (ls : List Value) (G : mc_H), mc_ev X 165 69 ls [.int v] G = some (some (.int v), G)) ∧
  (∀ (v0 v1 v2 v4 : Value) (x : Int32) (st : List Value) (G : mc_H), mc_ev X 165 70 [v0, v1, v2, .int x, v4] st G = mc_ev X 165 71 [v0, v1, v2, .int x, v4] (.int x :: st) G) ∧
  (∀ (x : Int32) (ls st : List Value) (G : mc_H), mc_ev X 165 71 ls (.int x :: st) G = if x < 0 then mc_ev X 165 74 ls st G else mc_ev X 165 81 ls st G) ∧
  (∀ (v1 v2 v3 v4 : Value) (x : Nat) (st : List Value) (G : mc_H), mc_ev X 165 74 [.ref x, v1, v2, v3, v4] st G = mc_ev X 165 75 [.ref x, v1, v2, v3, v4] (.ref x :: st) G) ∧
  (∀ (ls st : List Value) (G : mc_H), mc_ev X 165 75 ls st G = mc_ev X 165 77 ls (.int (-15) :: st) G) ∧
  (∀ (a0 : Int32) (r : Nat) (ls st : List Value) (G : mc_H), st.length ≤ 4 → mc_cls G r = some 8 → mc_ev X 165 77 ls (.int a0 :: .ref r :: st) G = (mc_ev X 163 0 [.ref r, .int a0] [] G).bind (fun q => mc_ev X 165 80 ls (q.1.toList ++ st) q.2)) ∧
  (∀ (v : Int32) (ls : List Value) (G : mc_H), mc_ev X 165 80 ls [.int v] G = some (some (.int v), G)) ∧
  (∀ (v1 v2 v3 v4 : Value) (x : Nat) (st : List Value) (G : mc_H), mc_ev X 165 81 [.ref x, v1, v2, v3, v4] st G = mc_ev X 165 82 [.ref x, v1, v2, v3, v4] (.ref x :: st) G) ∧
  (∀ (r : Nat) (ls st : List Value) (G : mc_H), mc_ev X 165 82 ls (.ref r :: st) G = (mc_getf G r 8 15).bind (fun v => mc_ev X 165 85 ls (v :: st) G)) ∧
  (∀ (ls st : List Value) (G : mc_H), mc_ev X 165 85 ls st G = mc_ev X 165 86 ls (.int 4 :: st) G) ∧
  (∀ (v0 v2 v3 v4 : Value) (x : Int32) (st : List Value) (G : mc_H), mc_ev X 165 86 [v0, .int x, v2, v3, v4] st G = mc_ev X 165 87 [v0, .int x, v2, v3, v4] (.int x :: st) G) ∧
  (∀ (x y : Int32) (ls st : List Value) (G : mc_H), mc_ev X 165 87 ls (.int y :: .int x :: st) G = mc_ev X 165 88 ls (.int (x * y) :: st) G) ∧
  (∀ (v0 v1 v3 v4 : Value) (x : Int32) (st : List Value) (G : mc_H), mc_ev X 165 88 [v0, v1, .int x, v3, v4] st G = mc_ev X 165 89 [v0, v1, .int x, v3, v4] (.int x :: st) G) ∧
  (∀ (x y : Int32) (ls st : List Value) (G : mc_H), mc_ev X 165 89 ls (.int y :: .int x :: st) G = mc_ev X 165 90 ls (.int (x + y) :: st) G) ∧
  (∀ (v0 v1 v2 v4 : Value) (x : Int32) (st : List Value) (G : mc_H), mc_ev X 165 90 [v0, v1, v2, .int x, v4] st G = mc_ev X 165 91 [v0, v1, v2, .int x, v4] (.int x :: st) G) ∧
  (∀ (x i : Int32) (r : Nat) (ls st : List Value) (G : mc_H), mc_ev X 165 91 ls (.int x :: .int i :: .ref r :: st) G = (mc_setA G 0 r i x).bind (fun G' => mc_ev X 165 92 ls st G')) ∧
  (∀ (ls st : List Value) (G : mc_H), mc_ev X 165 92 ls st G = mc_ev X 165 93 ls (.int 0 :: st) G) ∧
  (∀ (v0 v1 v2 v3 v4 : Value) (x : Int32) (st : List Value) (G : mc_H), mc_ev X 165 93 [v0, v1, v2, v3, v4] (.int x :: st) G = mc_ev X 165 95 [v0, v1, v2, v3, .int x] st G) ∧
  (∀ (ls st : List Value) (G : mc_H), mc_ev X 165 97 ls st G = mc_ev X 165 99 ls (.int 12 :: st) G) ∧
  (∀ (x y : Int32) (ls st : List Value) (G : mc_H), mc_ev X 165 99 ls (.int y :: .int x :: st) G = if x < y then mc_ev X 165 102 ls st G else mc_ev X 165 126 ls st G) ∧
  (∀ (v1 v2 v3 v4 : Value) (x : Nat) (st : List Value) (G : mc_H), mc_ev X 165 102 [.ref x, v1, v2, v3, v4] st G = mc_ev X 165 103 [.ref x, v1, v2, v3, v4] (.ref x :: st) G) ∧
  (∀ (r : Nat) (ls st : List Value) (G : mc_H), mc_ev X 165 103 ls (.ref r :: st) G = (mc_getf G r 8 16).bind (fun v => mc_ev X 165 106 ls (v :: st) G)) ∧
  (∀ (ls st : List Value) (G : mc_H), mc_ev X 165 106 ls st G = mc_ev X 165 108 ls (.int 48 :: st) G) ∧
  (∀ (v0 v2 v3 v4 : Value) (x : Int32) (st : List Value) (G : mc_H), mc_ev X 165 108 [v0, .int x, v2, v3, v4] st G = mc_ev X 165 109 [v0, .int x, v2, v3, v4] (.int x :: st) G) ∧
  (∀ (x y : Int32) (ls st : List Value) (G : mc_H), mc_ev X 165 109 ls (.int y :: .int x :: st) G = mc_ev X 165 110 ls (.int (x * y) :: st) G) ∧
  (∀ (ls st : List Value) (G : mc_H), mc_ev X 165 110 ls st G = mc_ev X 165 112 ls (.int 12 :: st) G) ∧
  (∀ (v0 v1 v3 v4 : Value) (x : Int32) (st : List Value) (G : mc_H), mc_ev X 165 112 [v0, v1, .int x, v3, v4] st G = mc_ev X 165 113 [v0, v1, .int x, v3, v4] (.int x :: st) G) ∧
  (∀ (x y : Int32) (ls st : List Value) (G : mc_H), mc_ev X 165 113 ls (.int y :: .int x :: st) G = mc_ev X 165 114 ls (.int (x * y) :: st) G) ∧
  (∀ (x y : Int32) (ls st : List Value) (G : mc_H), mc_ev X 165 114 ls (.int y :: .int x :: st) G = mc_ev X 165 115 ls (.int (x + y) :: st) G) ∧
  (∀ (v0 v1 v2 v3 : Value) (x : Int32) (st : List Value) (G : mc_H), mc_ev X 165 115 [v0, v1, v2, v3, .int x] st G = mc_ev X 165 117 [v0, v1, v2, v3, .int x] (.int x :: st) G) ∧
  (∀ (x y : Int32) (ls st : List Value) (G : mc_H), mc_ev X 165 117 ls (.int y :: .int x :: st) G = mc_ev X 165 118 ls (.int (x + y) :: st) G) ∧
  (∀ (ls st : List Value) (G : mc_H), mc_ev X 165 118 ls st G = mc_ev X 165 119 ls (.int 0 :: st) G) ∧
  (∀ (x i : Int32) (r : Nat) (ls st : List Value) (G : mc_H), mc_ev X 165 119 ls (.int x :: .int i :: .ref r :: st) G = (mc_setA G 0 r i x).bind (fun G' => mc_ev X 165 120 ls st G')) ∧
  (∀ (v0 v1 v2 v3 : Value) (x : Int32) (st : List Value) (G : mc_H), mc_ev X 165 120 [v0, v1, v2, v3, .int x] st G = mc_ev X 165 123 [v0, v1, v2, v3, .int (x + 1)] st G) ∧
  (∀ (ls st : List Value) (G : mc_H), mc_ev X 165 123 ls st G = mc_ev X 165 95 ls st G) ∧
  (∀ (ls st : List Value) (G : mc_H), mc_ev X 165 126 ls st G = mc_ev X 165 127 ls (.int 1 :: st) G) ∧
  (∀ (v : Int32) (ls : List Value) (G : mc_H), mc_ev X 165 127 ls [.int v] G = some (some (.int v), G)) := ⟨fun v1 v2 v3 v4 x st G => ev_aload_n rfl rfl,
  fun ls st G => ev_iconst rfl rfl,
  fun v r ls st G => ev_putfield rfl,
  fun v1 v2 v3 v4 x st G => ev_aload_n rfl rfl,
  fun ls st G => ev_iconst rfl rfl,
  fun v r ls st G => ev_putfield rfl,
  fun v0 v2 v3 v4 x st G => ev_iload_n rfl rfl,
  fun ls st G => ev_iconst rfl rfl,
  fun ls st G => ev_iconst rfl rfl,
  fun a0 a1 a2 ls st G hr => ev_stat (As := [.int a0, .int a1, .int a2]) rfl (by decide) rfl rfl rfl rfl hr,
  fun x ls st G => ev_br rfl rfl,
  fun v0 v1 v2 v4 x st G => ev_iload_n rfl rfl,
  fun ls st G => ev_bipush rfl rfl,
  fun x y ls st G => ev_br rfl rfl,
  fun v1 v2 v3 v4 x st G => ev_aload_n rfl rfl,
  fun ls st G => ev_iconst rfl rfl,
  fun a0 r ls st G hr hG => ev_virt (As := [.int a0]) rfl rfl rfl rfl rfl rfl hr hG,
  fun v ls G => ev_ireturn rfl rfl,
  fun v1 v2 v3 v4 x st G => ev_aload_n rfl rfl,
  fun r ls st G => ev_getfield rfl,
  fun v0 v2 v3 v4 x st G => ev_iload_n rfl rfl,
  fun i r ls st G => ev_baload rfl,
  fun x ls st G => ev_br rfl rfl,
  fun v1 v2 v3 v4 x st G => ev_aload_n rfl rfl,
  fun ls st G => ev_bipush rfl rfl,
  fun a0 r ls st G hr hG => ev_virt (As := [.int a0]) rfl rfl rfl rfl rfl rfl hr hG,
  fun v ls G => ev_ireturn rfl rfl,
  fun v0 v1 v3 v4 x st G => ev_iload_n rfl rfl,
  fun ls st G => ev_iconst rfl rfl,
  fun v1 v2 v3 v4 x st G => ev_aload_n rfl rfl,
  fun r ls st G => ev_getfield rfl,
  fun v0 v2 v3 v4 x st G => ev_iload_n rfl rfl,
  fun i r ls st G => ev_iaload rfl,
  fun ls st G => ev_iconst rfl rfl,
  fun x y ls st G => ev_isub rfl,
  fun a0 a1 a2 ls st G hr => ev_stat (As := [.int a0, .int a1, .int a2]) rfl (by decide) rfl rfl rfl rfl hr,
  fun x ls st G => ev_br rfl rfl,
  fun v1 v2 v3 v4 x st G => ev_aload_n rfl rfl,
  fun ls st G => ev_bipush rfl rfl,
  fun a0 r ls st G hr hG => ev_virt (As := [.int a0]) rfl rfl rfl rfl rfl rfl hr hG,
  fun v ls G => ev_ireturn rfl rfl,
  fun v0 v1 v2 v4 x st G => ev_iload_n rfl rfl,
  fun x ls st G => ev_br rfl rfl,
  fun v1 v2 v3 v4 x st G => ev_aload_n rfl rfl,
  fun ls st G => ev_bipush rfl rfl,
  fun a0 r ls st G hr hG => ev_virt (As := [.int a0]) rfl rfl rfl rfl rfl rfl hr hG,
  fun v ls G => ev_ireturn rfl rfl,
  fun v1 v2 v3 v4 x st G => ev_aload_n rfl rfl,
  fun r ls st G => ev_getfield rfl,
  fun ls st G => ev_iconst rfl rfl,
  fun v0 v2 v3 v4 x st G => ev_iload_n rfl rfl,
  fun x y ls st G => ev_imul rfl,
  fun v0 v1 v3 v4 x st G => ev_iload_n rfl rfl,
  fun x y ls st G => ev_iadd rfl,
  fun v0 v1 v2 v4 x st G => ev_iload_n rfl rfl,
  fun x i r ls st G => ev_iastore rfl,
  fun ls st G => ev_iconst rfl rfl,
  fun v0 v1 v2 v3 v4 x st G => ev_istore (X := X) (k := 165) (pc := 93) (ls := [v0, v1, v2, v3, v4]) (st := st) (G := G) (j := 4) (x := x) rfl (Nat.le_of_ble_eq_true rfl),
  fun ls st G => ev_bipush rfl rfl,
  fun x y ls st G => ev_br rfl rfl,
  fun v1 v2 v3 v4 x st G => ev_aload_n rfl rfl,
  fun r ls st G => ev_getfield rfl,
  fun ls st G => ev_bipush rfl rfl,
  fun v0 v2 v3 v4 x st G => ev_iload_n rfl rfl,
  fun x y ls st G => ev_imul rfl,
  fun ls st G => ev_bipush rfl rfl,
  fun v0 v1 v3 v4 x st G => ev_iload_n rfl rfl,
  fun x y ls st G => ev_imul rfl,
  fun x y ls st G => ev_iadd rfl,
  fun v0 v1 v2 v3 x st G => ev_iload rfl rfl,
  fun x y ls st G => ev_iadd rfl,
  fun ls st G => ev_iconst rfl rfl,
  fun x i r ls st G => ev_iastore rfl,
  fun v0 v1 v2 v3 x st G => ev_iinc (X := X) (k := 165) (pc := 120) (ls := [v0, v1, v2, v3, .int x]) (st := st) (G := G) (j := 4) (n := 1) (x := x) (v := 1) rfl rfl rfl,
  fun ls st G => ev_goto rfl rfl,
  fun ls st G => ev_iconst rfl rfl,
  fun v ls G => ev_ireturn rfl rfl⟩
set_option maxRecDepth 100000 in
theorem e_166 {X : mc_X} : (∀ (v0 v2 v3 v4 v5 : Value) (x : Int32) (st : List Value) (G : mc_H), mc_ev X 166 0 [v0, .int x, v2, v3, v4, v5] st G = mc_ev X 166 1 [v0, .int x, v2, v3, v4, v5] (.int x :: st) G) ∧
  (∀ (ls st : List Value) (G : mc_H), mc_ev X 166 1 ls st G = mc_ev X 166 2 ls (.int 0 :: st) G) ∧
  (∀ (ls st : List Value) (G : mc_H), mc_ev X 166 2 ls st G = mc_ev X 166 3 ls (.int 3 :: st) G) ∧
  (∀ (a0 : Int32) (a1 : Int32) (a2 : Int32) (ls st : List Value) (G : mc_H), st.length ≤ 4 → mc_ev X 166 3 ls (.int a2 :: .int a1 :: .int a0 :: st) G = (mc_ev X 112 0 [.int a0, .int a1, .int a2] [] G).bind (fun q => mc_ev X 166 6 ls (q.1.toList ++ st) q.2)) ∧
  (∀ (x : Int32) (ls st : List Value) (G : mc_H), mc_ev X 166 6 ls (.int x :: st) G = if x = 0 then mc_ev X 166 18 ls st G else mc_ev X 166 9 ls st G) ∧
  (∀ (v0 v1 v3 v4 v5 : Value) (x : Int32) (st : List Value) (G : mc_H), mc_ev X 166 9 [v0, v1, .int x, v3, v4, v5] st G = mc_ev X 166 10 [v0, v1, .int x, v3, v4, v5] (.int x :: st) G) ∧
  (∀ (ls st : List Value) (G : mc_H), mc_ev X 166 10 ls st G = mc_ev X 166 11 ls (.int 0 :: st) G) ∧
  (∀ (ls st : List Value) (G : mc_H), mc_ev X 166 11 ls st G = mc_ev X 166 12 ls (.int 2 :: st) G) ∧
  (∀ (a0 : Int32) (a1 : Int32) (a2 : Int32) (ls st : List Value) (G : mc_H), st.length ≤ 4 → mc_ev X 166 12 ls (.int a2 :: .int a1 :: .int a0 :: st) G = (mc_ev X 112 0 [.int a0, .int a1, .int a2] [] G).bind (fun q => mc_ev X 166 15 ls (q.1.toList ++ st) q.2)) ∧
  (∀ (x : Int32) (ls st : List Value) (G : mc_H), mc_ev X 166 15 ls (.int x :: st) G = if x = 0 then mc_ev X 166 18 ls st G else mc_ev X 166 20 ls st G) ∧
  (∀ (ls st : List Value) (G : mc_H), mc_ev X 166 18 ls st G = mc_ev X 166 19 ls (.int (-1) :: st) G) ∧
  (∀ (v : Int32) (ls : List Value) (G : mc_H), mc_ev X 166 19 ls [.int v] G = some (some (.int v), G)) ∧
  (∀ (v1 v2 v3 v4 v5 : Value) (x : Nat) (st : List Value) (G : mc_H), mc_ev X 166 20 [.ref x, v1, v2, v3, v4, v5] st G = mc_ev X 166 21 [.ref x, v1, v2, v3, v4, v5] (.ref x :: st) G) ∧
  (∀ (r : Nat) (ls st : List Value) (G : mc_H), mc_ev X 166 21 ls (.ref r :: st) G = (mc_getf G r 8 12).bind (fun v => mc_ev X 166 24 ls (v :: st) G)) ∧
  (∀ (v0 v2 v3 v4 v5 : Value) (x : Int32) (st : List Value) (G : mc_H), mc_ev X 166 24 [v0, .int x, v2, v3, v4, v5] st G = mc_ev X 166 25 [v0, .int x, v2, v3, v4, v5] (.int x :: st) G) ∧
  (∀ (i : Int32) (r : Value) (ls st : List Value) (G : mc_H), mc_ev X 166 25 ls (.int i :: r :: st) G = (mc_getA X G 1 r i).bind (fun x => mc_ev X 166 26 ls (.int x :: st) G)) ∧
  (∀ (x : Int32) (ls st : List Value) (G : mc_H), mc_ev X 166 26 ls (.int x :: st) G = if x = 0 then mc_ev X 166 29 ls st G else mc_ev X 166 32 ls st G) ∧
  (∀ (ls st : List Value) (G : mc_H), mc_ev X 166 29 ls st G = mc_ev X 166 31 ls (.int (-11) :: st) G) ∧
  (∀ (v : Int32) (ls : List Value) (G : mc_H), mc_ev X 166 31 ls [.int v] G = some (some (.int v), G)) ∧
  (∀ (v1 v2 v3 v4 v5 : Value) (x : Nat) (st : List Value) (G : mc_H), mc_ev X 166 32 [.ref x, v1, v2, v3, v4, v5] st G = mc_ev X 166 33 [.ref x, v1, v2, v3, v4, v5] (.ref x :: st) G) ∧
  (∀ (r : Nat) (ls st : List Value) (G : mc_H), mc_ev X 166 33 ls (.ref r :: st) G = (mc_getf G r 8 13).bind (fun v => mc_ev X 166 36 ls (v :: st) G)) ∧
  (∀ (v0 v2 v3 v4 v5 : Value) (x : Int32) (st : List Value) (G : mc_H), mc_ev X 166 36 [v0, .int x, v2, v3, v4, v5] st G = mc_ev X 166 37 [v0, .int x, v2, v3, v4, v5] (.int x :: st) G) ∧
  (∀ (i : Int32) (r : Value) (ls st : List Value) (G : mc_H), mc_ev X 166 37 ls (.int i :: r :: st) G = (mc_getA X G 0 r i).bind (fun x => mc_ev X 166 38 ls (.int x :: st) G)) ∧
  (∀ (v0 v1 v3 v4 v5 : Value) (x : Int32) (st : List Value) (G : mc_H), mc_ev X 166 38 [v0, v1, .int x, v3, v4, v5] st G = mc_ev X 166 39 [v0, v1, .int x, v3, v4, v5] (.int x :: st) G) ∧
  (∀ (x y : Int32) (ls st : List Value) (G : mc_H), mc_ev X 166 39 ls (.int y :: .int x :: st) G = if x = y then mc_ev X 166 45 ls st G else mc_ev X 166 42 ls st G) ∧
  (∀ (ls st : List Value) (G : mc_H), mc_ev X 166 42 ls st G = mc_ev X 166 44 ls (.int (-13) :: st) G) ∧
  (∀ (v : Int32) (ls : List Value) (G : mc_H), mc_ev X 166 44 ls [.int v] G = some (some (.int v), G)) ∧
  (∀ (v0 v1 v2 v4 v5 : Value) (x : Int32) (st : List Value) (G : mc_H), mc_ev X 166 45 [v0, v1, v2, .int x, v4, v5] st G = mc_ev X 166 46 [v0, v1, v2, .int x, v4, v5] (.int x :: st) G) ∧
  (∀ (ls st : List Value) (G : mc_H), mc_ev X 166 46 ls st G = mc_ev X 166 47 ls (.int 0 :: st) G) ∧
  (∀ (v1 v2 v3 v4 v5 : Value) (x : Nat) (st : List Value) (G : mc_H), mc_ev X 166 47 [.ref x, v1, v2, v3, v4, v5] st G = mc_ev X 166 48 [.ref x, v1, v2, v3, v4, v5] (.ref x :: st) G) ∧
  (∀ (r : Nat) (ls st : List Value) (G : mc_H), mc_ev X 166 48 ls (.ref r :: st) G = (mc_getf G r 8 14).bind (fun v => mc_ev X 166 51 ls (v :: st) G)) ∧
  (∀ (v0 v2 v3 v4 v5 : Value) (x : Int32) (st : List Value) (G : mc_H), mc_ev X 166 51 [v0, .int x, v2, v3, v4, v5] st G = mc_ev X 166 52 [v0, .int x, v2, v3, v4, v5] (.int x :: st) G) ∧
  (∀ (i : Int32) (r : Value) (ls st : List Value) (G : mc_H), mc_ev X 166 52 ls (.int i :: r :: st) G = (mc_getA X G 0 r i).bind (fun x => mc_ev X 166 53 ls (.int x :: st) G)) ∧
  (∀ (ls st : List Value) (G : mc_H), mc_ev X 166 53 ls st G = mc_ev X 166 54 ls (.int 1 :: st) G) ∧
  (∀ (x y : Int32) (ls st : List Value) (G : mc_H), mc_ev X 166 54 ls (.int y :: .int x :: st) G = mc_ev X 166 55 ls (.int (x - y) :: st) G) ∧
  (∀ (a0 : Int32) (a1 : Int32) (a2 : Int32) (ls st : List Value) (G : mc_H), st.length ≤ 4 → mc_ev X 166 55 ls (.int a2 :: .int a1 :: .int a0 :: st) G = (mc_ev X 112 0 [.int a0, .int a1, .int a2] [] G).bind (fun q => mc_ev X 166 58 ls (q.1.toList ++ st) q.2)) ∧
  (∀ (x : Int32) (ls st : List Value) (G : mc_H), mc_ev X 166 58 ls (.int x :: st) G = if x = 0 then mc_ev X 166 61 ls st G else mc_ev X 166 64 ls st G) ∧
  (∀ (ls st : List Value) (G : mc_H), mc_ev X 166 61 ls st G = mc_ev X 166 63 ls (.int (-12) :: st) G) ∧
  (∀ (v : Int32) (ls : List Value) (G : mc_H), mc_ev X 166 63 ls [.int v] G = some (some (.int v), G)) ∧
  (∀ (v1 v2 v3 v4 v5 : Value) (x : Nat) (st : List Value) (G : mc_H), mc_ev X 166 64 [.ref x, v1, v2, v3, v4, v5] st G = mc_ev X 166 65 [.ref x, v1, v2, v3, v4, v5] (.ref x :: st) G) ∧
  (∀ (r : Nat) (ls st : List Value) (G : mc_H), mc_ev X 166 65 ls (.ref r :: st) G = (mc_getf G r 8 15).bind (fun v => mc_ev X 166 68 ls (v :: st) G)) ∧
  (∀ (ls st : List Value) (G : mc_H), mc_ev X 166 68 ls st G = mc_ev X 166 69 ls (.int 4 :: st) G) ∧
  (∀ (v0 v2 v3 v4 v5 : Value) (x : Int32) (st : List Value) (G : mc_H), mc_ev X 166 69 [v0, .int x, v2, v3, v4, v5] st G = mc_ev X 166 70 [v0, .int x, v2, v3, v4, v5] (.int x :: st) G) ∧
  (∀ (x y : Int32) (ls st : List Value) (G : mc_H), mc_ev X 166 70 ls (.int y :: .int x :: st) G = mc_ev X 166 71 ls (.int (x * y) :: st) G) ∧
  (∀ (v0 v1 v2 v4 v5 : Value) (x : Int32) (st : List Value) (G : mc_H), mc_ev X 166 71 [v0, v1, v2, .int x, v4, v5] st G = mc_ev X 166 72 [v0, v1, v2, .int x, v4, v5] (.int x :: st) G) ∧
  (∀ (x y : Int32) (ls st : List Value) (G : mc_H), mc_ev X 166 72 ls (.int y :: .int x :: st) G = mc_ev X 166 73 ls (.int (x + y) :: st) G) ∧
  (∀ (i : Int32) (r : Value) (ls st : List Value) (G : mc_H), mc_ev X 166 73 ls (.int i :: r :: st) G = (mc_getA X G 0 r i).bind (fun x => mc_ev X 166 74 ls (.int x :: st) G)) ∧
  (∀ (v0 v1 v2 v3 v4 v5 : Value) (x : Int32) (st : List Value) (G : mc_H), mc_ev X 166 74 [v0, v1, v2, v3, v4, v5] (.int x :: st) G = mc_ev X 166 76 [v0, v1, v2, v3, v4, .int x] st G) ∧
  (∀ (v0 v1 v2 v3 v4 : Value) (x : Int32) (st : List Value) (G : mc_H), mc_ev X 166 76 [v0, v1, v2, v3, v4, .int x] st G = mc_ev X 166 78 [v0, v1, v2, v3, v4, .int x] (.int x :: st) G) ∧
  (∀ (ls st : List Value) (G : mc_H), mc_ev X 166 78 ls st G = mc_ev X 166 80 ls (.int (-9) :: st) G) ∧
  (∀ (x y : Int32) (ls st : List Value) (G : mc_H), mc_ev X 166 80 ls (.int y :: .int x :: st) G = if x = y then mc_ev X 166 83 ls st G else mc_ev X 166 88 ls st G) ∧
  (∀ (ls st : List Value) (G : mc_H), mc_ev X 166 83 ls st G = mc_ev X 166 85 ls (.int (-11) :: st) G) ∧
  (∀ (ls st : List Value) (G : mc_H), mc_ev X 166 85 ls st G = mc_ev X 166 107 ls st G) ∧
  (∀ (v0 v1 v2 v3 v5 : Value) (x : Int32) (st : List Value) (G : mc_H), mc_ev X 166 88 [v0, v1, v2, v3, .int x, v5] st G = mc_ev X 166 90 [v0, v1, v2, v3, .int x, v5] (.int x :: st) G) ∧
  (∀ (ls st : List Value) (G : mc_H), mc_ev X 166 90 ls st G = mc_ev X 166 91 ls (.int 0 :: st) G) ∧
  (∀ (v0 v1 v2 v3 v4 : Value) (x : Int32) (st : List Value) (G : mc_H), mc_ev X 166 91 [v0, v1, v2, v3, v4, .int x] st G = mc_ev X 166 93 [v0, v1, v2, v3, v4, .int x] (.int x :: st) G) ∧
  (∀ (ls st : List Value) (G : mc_H), mc_ev X 166 93 ls st G = mc_ev X 166 94 ls (.int 1 :: st) G) ∧
  (∀ (x y : Int32) (ls st : List Value) (G : mc_H), mc_ev X 166 94 ls (.int y :: .int x :: st) G = mc_ev X 166 95 ls (.int (x - y) :: st) G) ∧
  (∀ (a0 : Int32) (a1 : Int32) (a2 : Int32) (ls st : List Value) (G : mc_H), st.length ≤ 4 → mc_ev X 166 95 ls (.int a2 :: .int a1 :: .int a0 :: st) G = (mc_ev X 112 0 [.int a0, .int a1, .int a2] [] G).bind (fun q => mc_ev X 166 98 ls (q.1.toList ++ st) q.2)) ∧
  (∀ (x : Int32) (ls st : List Value) (G : mc_H), mc_ev X 166 98 ls (.int x :: st) G = if x = 0 then mc_ev X 166 105 ls st G else mc_ev X 166 101 ls st G) ∧
  (∀ (ls st : List Value) (G : mc_H), mc_ev X 166 101 ls st G = mc_ev X 166 102 ls (.int 0 :: st) G) ∧
  (∀ (ls st : List Value) (G : mc_H), mc_ev X 166 102 ls st G = mc_ev X 166 107 ls st G) ∧
  (∀ (ls st : List Value) (G : mc_H), mc_ev X 166 105 ls st G = mc_ev X 166 107 ls (.int (-12) :: st) G) ∧
  (∀ (v : Int32) (ls : List Value) (G : mc_H), mc_ev X 166 107 ls [.int v] G = some (some (.int v), G)) := ⟨fun v0 v2 v3 v4 v5 x st G => ev_iload_n rfl rfl,
  fun ls st G => ev_iconst rfl rfl,
  fun ls st G => ev_iconst rfl rfl,
  fun a0 a1 a2 ls st G hr => ev_stat (As := [.int a0, .int a1, .int a2]) rfl (by decide) rfl rfl rfl rfl hr,
  fun x ls st G => ev_br rfl rfl,
  fun v0 v1 v3 v4 v5 x st G => ev_iload_n rfl rfl,
  fun ls st G => ev_iconst rfl rfl,
  fun ls st G => ev_iconst rfl rfl,
  fun a0 a1 a2 ls st G hr => ev_stat (As := [.int a0, .int a1, .int a2]) rfl (by decide) rfl rfl rfl rfl hr,
  fun x ls st G => ev_br rfl rfl,
  fun ls st G => ev_iconst rfl rfl,
  fun v ls G => ev_ireturn rfl rfl,
  fun v1 v2 v3 v4 v5 x st G => ev_aload_n rfl rfl,
  fun r ls st G => ev_getfield rfl,
  fun v0 v2 v3 v4 v5 x st G => ev_iload_n rfl rfl,
  fun i r ls st G => ev_baload rfl,
  fun x ls st G => ev_br rfl rfl,
  fun ls st G => ev_bipush rfl rfl,
  fun v ls G => ev_ireturn rfl rfl,
  fun v1 v2 v3 v4 v5 x st G => ev_aload_n rfl rfl,
  fun r ls st G => ev_getfield rfl,
  fun v0 v2 v3 v4 v5 x st G => ev_iload_n rfl rfl,
  fun i r ls st G => ev_iaload rfl,
  fun v0 v1 v3 v4 v5 x st G => ev_iload_n rfl rfl,
  fun x y ls st G => ev_br rfl rfl,
  fun ls st G => ev_bipush rfl rfl,
  fun v ls G => ev_ireturn rfl rfl,
  fun v0 v1 v2 v4 v5 x st G => ev_iload_n rfl rfl,
  fun ls st G => ev_iconst rfl rfl,
  fun v1 v2 v3 v4 v5 x st G => ev_aload_n rfl rfl,
  fun r ls st G => ev_getfield rfl,
  fun v0 v2 v3 v4 v5 x st G => ev_iload_n rfl rfl,
  fun i r ls st G => ev_iaload rfl,
  fun ls st G => ev_iconst rfl rfl,
  fun x y ls st G => ev_isub rfl,
  fun a0 a1 a2 ls st G hr => ev_stat (As := [.int a0, .int a1, .int a2]) rfl (by decide) rfl rfl rfl rfl hr,
  fun x ls st G => ev_br rfl rfl,
  fun ls st G => ev_bipush rfl rfl,
  fun v ls G => ev_ireturn rfl rfl,
  fun v1 v2 v3 v4 v5 x st G => ev_aload_n rfl rfl,
  fun r ls st G => ev_getfield rfl,
  fun ls st G => ev_iconst rfl rfl,
  fun v0 v2 v3 v4 v5 x st G => ev_iload_n rfl rfl,
  fun x y ls st G => ev_imul rfl,
  fun v0 v1 v2 v4 v5 x st G => ev_iload_n rfl rfl,
  fun x y ls st G => ev_iadd rfl,
  fun i r ls st G => ev_iaload rfl,
  fun v0 v1 v2 v3 v4 v5 x st G => ev_istore (X := X) (k := 166) (pc := 74) (ls := [v0, v1, v2, v3, v4, v5]) (st := st) (G := G) (j := 5) (x := x) rfl (Nat.le_of_ble_eq_true rfl),
  fun v0 v1 v2 v3 v4 x st G => ev_iload rfl rfl,
  fun ls st G => ev_bipush rfl rfl,
  fun x y ls st G => ev_br rfl rfl,
  fun ls st G => ev_bipush rfl rfl,
  fun ls st G => ev_goto rfl rfl,
  fun v0 v1 v2 v3 v5 x st G => ev_iload rfl rfl,
  fun ls st G => ev_iconst rfl rfl,
  fun v0 v1 v2 v3 v4 x st G => ev_iload rfl rfl,
  fun ls st G => ev_iconst rfl rfl,
  fun x y ls st G => ev_isub rfl,
  fun a0 a1 a2 ls st G hr => ev_stat (As := [.int a0, .int a1, .int a2]) rfl (by decide) rfl rfl rfl rfl hr,
  fun x ls st G => ev_br rfl rfl,
  fun ls st G => ev_iconst rfl rfl,
  fun ls st G => ev_goto rfl rfl,
  fun ls st G => ev_bipush rfl rfl,
  fun v ls G => ev_ireturn rfl rfl⟩
set_option maxRecDepth 100000 in
theorem e_167 {X : mc_X} : (∀ (v1 v2 v3 v4 v5 : Value) (x : Nat) (st : List Value) (G : mc_H), mc_ev X 167 0 [.ref x, v1, v2, v3, v4, v5] st G = mc_ev X 167 1 [.ref x, v1, v2, v3, v4, v5] (.ref x :: st) G) ∧
  (∀ (ls st : List Value) (G : mc_H), mc_ev X 167 1 ls st G = mc_ev X 167 2 ls (.int 0 :: st) G) ∧
  (∀ (v : Value) (r : Nat) (ls st : List Value) (G : mc_H), mc_ev X 167 2 ls (v :: .ref r :: st) G = (mc_setf G r 8 0 v).bind (fun G' => mc_ev X 167 5 ls st G')) ∧
  (∀ (v1 v2 v3 v4 v5 : Value) (x : Nat) (st : List Value) (G : mc_H), mc_ev X 167 5 [.ref x, v1, v2, v3, v4, v5] st G = mc_ev X 167 6 [.ref x, v1, v2, v3, v4, v5] (.ref x :: st) G) ∧
  (∀ (v1 v2 v3 v4 v5 : Value) (x : Nat) (st : List Value) (G : mc_H), mc_ev X 167 6 [.ref x, v1, v2, v3, v4, v5] st G = mc_ev X 167 7 [.ref x, v1, v2, v3, v4, v5] (.ref x :: st) G) ∧
  (∀ (v0 v2 v3 v4 v5 : Value) (x : Int32) (st : List Value) (G : mc_H), mc_ev X 167 7 [v0, .int x, v2, v3, v4, v5] st G = mc_ev X 167 8 [v0, .int x, v2, v3, v4, v5] (.int x :: st) G) ∧
  (∀ (v0 v1 v3 v4 v5 : Value) (x : Int32) (st : List Value) (G : mc_H), mc_ev X 167 8 [v0, v1, .int x, v3, v4, v5] st G = mc_ev X 167 9 [v0, v1, .int x, v3, v4, v5] (.int x :: st) G) ∧
  (∀ (v0 v1 v2 v4 v5 : Value) (x : Int32) (st : List Value) (G : mc_H), mc_ev X 167 9 [v0, v1, v2, .int x, v4, v5] st G = mc_ev X 167 10 [v0, v1, v2, .int x, v4, v5] (.int x :: st) G) ∧
  (∀ (v0 v1 v2 v3 v5 : Value) (x : Int32) (st : List Value) (G : mc_H), mc_ev X 167 10 [v0, v1, v2, v3, .int x, v5] st G = mc_ev X 167 12 [v0, v1, v2, v3, .int x, v5] (.int x :: st) G) ∧
  (∀ (a0 : Int32) (a1 : Int32) (a2 : Int32) (a3 : Int32) (r : Nat) (ls st : List Value) (G : mc_H), st.length ≤ 4 → mc_cls G r = some 8 → mc_ev X 167 12 ls (.int a3 :: .int a2 :: .int a1 :: .int a0 :: .ref r :: st) G = (mc_ev X 166 0 [.ref r, .int a0, .int a1, .int a2, .int a3, .null] [] G).bind (fun q => mc_ev X 167 15 ls (q.1.toList ++ st) q.2)) ∧
  (∀ (v : Value) (r : Nat) (ls st : List Value) (G : mc_H), mc_ev X 167 15 ls (v :: .ref r :: st) G = (mc_setf G r 8 1 v).bind (fun G' => mc_ev X 167 18 ls st G')) ∧
  (∀ (v1 v2 v3 v4 v5 : Value) (x : Nat) (st : List Value) (G : mc_H), mc_ev X 167 18 [.ref x, v1, v2, v3, v4, v5] st G = mc_ev X 167 19 [.ref x, v1, v2, v3, v4, v5] (.ref x :: st) G) ∧
  (∀ (r : Nat) (ls st : List Value) (G : mc_H), mc_ev X 167 19 ls (.ref r :: st) G = (mc_getf G r 8 1).bind (fun v => mc_ev X 167 22 ls (v :: st) G)) ∧
  (∀ (x : Int32) (ls st : List Value) (G : mc_H), mc_ev X 167 22 ls (.int x :: st) G = if x < 0 then mc_ev X 167 25 ls st G else mc_ev X 167 30 ls st G) ∧
  (∀ (v1 v2 v3 v4 v5 : Value) (x : Nat) (st : List Value) (G : mc_H), mc_ev X 167 25 [.ref x, v1, v2, v3, v4, v5] st G = mc_ev X 167 26 [.ref x, v1, v2, v3, v4, v5] (.ref x :: st) G) ∧
  (∀ (r : Nat) (ls st : List Value) (G : mc_H), mc_ev X 167 26 ls (.ref r :: st) G = (mc_getf G r 8 1).bind (fun v => mc_ev X 167 29 ls (v :: st) G)) ∧
  (∀ (v : Int32) (ls : List Value) (G : mc_H), mc_ev X 167 29 ls [.int v] G = some (some (.int v), G)) ∧
  (∀ (v1 v2 v3 v4 v5 : Value) (x : Nat) (st : List Value) (G : mc_H), mc_ev X 167 30 [.ref x, v1, v2, v3, v4, v5] st G = mc_ev X 167 31 [.ref x, v1, v2, v3, v4, v5] (.ref x :: st) G) ∧
  (∀ (r : Nat) (ls st : List Value) (G : mc_H), mc_ev X 167 31 ls (.ref r :: st) G = (mc_getf G r 8 16).bind (fun v => mc_ev X 167 34 ls (v :: st) G)) ∧
  (∀ (ls st : List Value) (G : mc_H), mc_ev X 167 34 ls st G = mc_ev X 167 36 ls (.int 48 :: st) G) ∧
  (∀ (v0 v2 v3 v4 v5 : Value) (x : Int32) (st : List Value) (G : mc_H), mc_ev X 167 36 [v0, .int x, v2, v3, v4, v5] st G = mc_ev X 167 37 [v0, .int x, v2, v3, v4, v5] (.int x :: st) G) ∧
  (∀ (x y : Int32) (ls st : List Value) (G : mc_H), mc_ev X 167 37 ls (.int y :: .int x :: st) G = mc_ev X 167 38 ls (.int (x * y) :: st) G) ∧
  (∀ (ls st : List Value) (G : mc_H), mc_ev X 167 38 ls st G = mc_ev X 167 40 ls (.int 12 :: st) G) ∧
  (∀ (v0 v1 v2 v4 v5 : Value) (x : Int32) (st : List Value) (G : mc_H), mc_ev X 167 40 [v0, v1, v2, .int x, v4, v5] st G = mc_ev X 167 41 [v0, v1, v2, .int x, v4, v5] (.int x :: st) G) ∧
  (∀ (x y : Int32) (ls st : List Value) (G : mc_H), mc_ev X 167 41 ls (.int y :: .int x :: st) G = mc_ev X 167 42 ls (.int (x * y) :: st) G) ∧
  (∀ (x y : Int32) (ls st : List Value) (G : mc_H), mc_ev X 167 42 ls (.int y :: .int x :: st) G = mc_ev X 167 43 ls (.int (x + y) :: st) G) ∧
  (∀ (v0 v1 v2 v3 v5 : Value) (x : Int32) (st : List Value) (G : mc_H), mc_ev X 167 43 [v0, v1, v2, v3, .int x, v5] st G = mc_ev X 167 45 [v0, v1, v2, v3, .int x, v5] (.int x :: st) G) ∧
  (∀ (x y : Int32) (ls st : List Value) (G : mc_H), mc_ev X 167 45 ls (.int y :: .int x :: st) G = mc_ev X 167 46 ls (.int (x + y) :: st) G) ∧
  (∀ (v0 v1 v3 v4 v5 : Value) (x : Int32) (st : List Value) (G : mc_H), mc_ev X 167 46 [v0, v1, .int x, v3, v4, v5] st G = mc_ev X 167 47 [v0, v1, .int x, v3, v4, v5] (.int x :: st) G) ∧
  (∀ (x : Int32) (ls st : List Value) (G : mc_H), mc_ev X 167 47 ls (.int x :: st) G = if x = 0 then mc_ev X 167 50 ls st G else mc_ev X 167 56 ls st G) ∧
  (∀ (v0 v1 v2 v3 v4 : Value) (x : Int32) (st : List Value) (G : mc_H), mc_ev X 167 50 [v0, v1, v2, v3, v4, .int x] st G = mc_ev X 167 52 [v0, v1, v2, v3, v4, .int x] (.int x :: st) G) ∧
  (∀ (x : Int32) (ls st : List Value) (G : mc_H), mc_ev X 167 52 ls (.int x :: st) G = mc_ev X 167 53 ls (.int (x.toInt8.toInt32) :: st) G) ∧
  (∀ (ls st : List Value) (G : mc_H), mc_ev X 167 53 ls st G = mc_ev X 167 69 ls st G) ∧
  (∀ (v0 v1 v3 v4 v5 : Value) (x : Int32) (st : List Value) (G : mc_H), mc_ev X 167 56 [v0, v1, .int x, v3, v4, v5] st G = mc_ev X 167 57 [v0, v1, .int x, v3, v4, v5] (.int x :: st) G) ∧
  (∀ (ls st : List Value) (G : mc_H), mc_ev X 167 57 ls st G = mc_ev X 167 58 ls (.int 1 :: st) G) ∧
  (∀ (x y : Int32) (ls st : List Value) (G : mc_H), mc_ev X 167 58 ls (.int y :: .int x :: st) G = if x = y then mc_ev X 167 61 ls st G else mc_ev X 167 67 ls st G) ∧
  (∀ (v0 v1 v2 v3 v4 : Value) (x : Int32) (st : List Value) (G : mc_H), mc_ev X 167 61 [v0, v1, v2, v3, v4, .int x] st G = mc_ev X 167 63 [v0, v1, v2, v3, v4, .int x] (.int x :: st) G) ∧
  (∀ (x : Int32) (ls st : List Value) (G : mc_H), mc_ev X 167 63 ls (.int x :: st) G = mc_ev X 167 64 ls (.int (x.toInt16.toInt32) :: st) G) ∧
  (∀ (ls st : List Value) (G : mc_H), mc_ev X 167 64 ls st G = mc_ev X 167 69 ls st G) ∧
  (∀ (v0 v1 v2 v3 v4 : Value) (x : Int32) (st : List Value) (G : mc_H), mc_ev X 167 67 [v0, v1, v2, v3, v4, .int x] st G = mc_ev X 167 69 [v0, v1, v2, v3, v4, .int x] (.int x :: st) G) ∧
  (∀ (x i : Int32) (r : Nat) (ls st : List Value) (G : mc_H), mc_ev X 167 69 ls (.int x :: .int i :: .ref r :: st) G = (mc_setA G 0 r i x).bind (fun G' => mc_ev X 167 70 ls st G')) ∧
  (∀ (ls st : List Value) (G : mc_H), mc_ev X 167 70 ls st G = mc_ev X 167 71 ls (.int 1 :: st) G) ∧
  (∀ (v : Int32) (ls : List Value) (G : mc_H), mc_ev X 167 71 ls [.int v] G = some (some (.int v), G)) := ⟨fun v1 v2 v3 v4 v5 x st G => ev_aload_n rfl rfl,
  fun ls st G => ev_iconst rfl rfl,
  fun v r ls st G => ev_putfield rfl,
  fun v1 v2 v3 v4 v5 x st G => ev_aload_n rfl rfl,
  fun v1 v2 v3 v4 v5 x st G => ev_aload_n rfl rfl,
  fun v0 v2 v3 v4 v5 x st G => ev_iload_n rfl rfl,
  fun v0 v1 v3 v4 v5 x st G => ev_iload_n rfl rfl,
  fun v0 v1 v2 v4 v5 x st G => ev_iload_n rfl rfl,
  fun v0 v1 v2 v3 v5 x st G => ev_iload rfl rfl,
  fun a0 a1 a2 a3 r ls st G hr hG => ev_virt (As := [.int a0, .int a1, .int a2, .int a3]) rfl rfl rfl rfl rfl rfl hr hG,
  fun v r ls st G => ev_putfield rfl,
  fun v1 v2 v3 v4 v5 x st G => ev_aload_n rfl rfl,
  fun r ls st G => ev_getfield rfl,
  fun x ls st G => ev_br rfl rfl,
  fun v1 v2 v3 v4 v5 x st G => ev_aload_n rfl rfl,
  fun r ls st G => ev_getfield rfl,
  fun v ls G => ev_ireturn rfl rfl,
  fun v1 v2 v3 v4 v5 x st G => ev_aload_n rfl rfl,
  fun r ls st G => ev_getfield rfl,
  fun ls st G => ev_bipush rfl rfl,
  fun v0 v2 v3 v4 v5 x st G => ev_iload_n rfl rfl,
  fun x y ls st G => ev_imul rfl,
  fun ls st G => ev_bipush rfl rfl,
  fun v0 v1 v2 v4 v5 x st G => ev_iload_n rfl rfl,
  fun x y ls st G => ev_imul rfl,
  fun x y ls st G => ev_iadd rfl,
  fun v0 v1 v2 v3 v5 x st G => ev_iload rfl rfl,
  fun x y ls st G => ev_iadd rfl,
  fun v0 v1 v3 v4 v5 x st G => ev_iload_n rfl rfl,
  fun x ls st G => ev_br rfl rfl,
  fun v0 v1 v2 v3 v4 x st G => ev_iload rfl rfl,
  fun x ls st G => ev_i2b rfl,
  fun ls st G => ev_goto rfl rfl,
  fun v0 v1 v3 v4 v5 x st G => ev_iload_n rfl rfl,
  fun ls st G => ev_iconst rfl rfl,
  fun x y ls st G => ev_br rfl rfl,
  fun v0 v1 v2 v3 v4 x st G => ev_iload rfl rfl,
  fun x ls st G => ev_i2s rfl,
  fun ls st G => ev_goto rfl rfl,
  fun v0 v1 v2 v3 v4 x st G => ev_iload rfl rfl,
  fun x i r ls st G => ev_iastore rfl,
  fun ls st G => ev_iconst rfl rfl,
  fun v ls G => ev_ireturn rfl rfl⟩
set_option maxRecDepth 100000 in
theorem e_168 {X : mc_X} : (∀ (v1 v2 v3 v4 : Value) (x : Nat) (st : List Value) (G : mc_H), mc_ev X 168 0 [.ref x, v1, v2, v3, v4] st G = mc_ev X 168 1 [.ref x, v1, v2, v3, v4] (.ref x :: st) G) ∧
  (∀ (ls st : List Value) (G : mc_H), mc_ev X 168 1 ls st G = mc_ev X 168 2 ls (.int 0 :: st) G) ∧
  (∀ (v : Value) (r : Nat) (ls st : List Value) (G : mc_H), mc_ev X 168 2 ls (v :: .ref r :: st) G = (mc_setf G r 8 0 v).bind (fun G' => mc_ev X 168 5 ls st G')) ∧
  (∀ (v1 v2 v3 v4 : Value) (x : Nat) (st : List Value) (G : mc_H), mc_ev X 168 5 [.ref x, v1, v2, v3, v4] st G = mc_ev X 168 6 [.ref x, v1, v2, v3, v4] (.ref x :: st) G) ∧
  (∀ (v1 v2 v3 v4 : Value) (x : Nat) (st : List Value) (G : mc_H), mc_ev X 168 6 [.ref x, v1, v2, v3, v4] st G = mc_ev X 168 7 [.ref x, v1, v2, v3, v4] (.ref x :: st) G) ∧
  (∀ (v0 v2 v3 v4 : Value) (x : Int32) (st : List Value) (G : mc_H), mc_ev X 168 7 [v0, .int x, v2, v3, v4] st G = mc_ev X 168 8 [v0, .int x, v2, v3, v4] (.int x :: st) G) ∧
  (∀ (v0 v1 v3 v4 : Value) (x : Int32) (st : List Value) (G : mc_H), mc_ev X 168 8 [v0, v1, .int x, v3, v4] st G = mc_ev X 168 9 [v0, v1, .int x, v3, v4] (.int x :: st) G) ∧
  (∀ (v0 v1 v2 v4 : Value) (x : Int32) (st : List Value) (G : mc_H), mc_ev X 168 9 [v0, v1, v2, .int x, v4] st G = mc_ev X 168 10 [v0, v1, v2, .int x, v4] (.int x :: st) G) ∧
  (∀ (v0 v1 v2 v3 : Value) (x : Int32) (st : List Value) (G : mc_H), mc_ev X 168 10 [v0, v1, v2, v3, .int x] st G = mc_ev X 168 12 [v0, v1, v2, v3, .int x] (.int x :: st) G) ∧
  (∀ (a0 : Int32) (a1 : Int32) (a2 : Int32) (a3 : Int32) (r : Nat) (ls st : List Value) (G : mc_H), st.length ≤ 4 → mc_cls G r = some 8 → mc_ev X 168 12 ls (.int a3 :: .int a2 :: .int a1 :: .int a0 :: .ref r :: st) G = (mc_ev X 166 0 [.ref r, .int a0, .int a1, .int a2, .int a3, .null] [] G).bind (fun q => mc_ev X 168 15 ls (q.1.toList ++ st) q.2)) ∧
  (∀ (v : Value) (r : Nat) (ls st : List Value) (G : mc_H), mc_ev X 168 15 ls (v :: .ref r :: st) G = (mc_setf G r 8 1 v).bind (fun G' => mc_ev X 168 18 ls st G')) ∧
  (∀ (v1 v2 v3 v4 : Value) (x : Nat) (st : List Value) (G : mc_H), mc_ev X 168 18 [.ref x, v1, v2, v3, v4] st G = mc_ev X 168 19 [.ref x, v1, v2, v3, v4] (.ref x :: st) G) ∧
  (∀ (r : Nat) (ls st : List Value) (G : mc_H), mc_ev X 168 19 ls (.ref r :: st) G = (mc_getf G r 8 1).bind (fun v => mc_ev X 168 22 ls (v :: st) G)) ∧
  (∀ (x : Int32) (ls st : List Value) (G : mc_H), mc_ev X 168 22 ls (.int x :: st) G = if x < 0 then mc_ev X 168 25 ls st G else mc_ev X 168 29 ls st G) ∧
  (∀ (ls st : List Value) (G : mc_H), mc_ev X 168 25 ls st G = mc_ev X 168 26 ls (.int 0 :: st) G) ∧
  (∀ (ls st : List Value) (G : mc_H), mc_ev X 168 26 ls st G = mc_ev X 168 46 ls st G) ∧
  (∀ (v1 v2 v3 v4 : Value) (x : Nat) (st : List Value) (G : mc_H), mc_ev X 168 29 [.ref x, v1, v2, v3, v4] st G = mc_ev X 168 30 [.ref x, v1, v2, v3, v4] (.ref x :: st) G) ∧
  (∀ (r : Nat) (ls st : List Value) (G : mc_H), mc_ev X 168 30 ls (.ref r :: st) G = (mc_getf G r 8 16).bind (fun v => mc_ev X 168 33 ls (v :: st) G)) ∧
  (∀ (ls st : List Value) (G : mc_H), mc_ev X 168 33 ls st G = mc_ev X 168 35 ls (.int 48 :: st) G) ∧
  (∀ (v0 v2 v3 v4 : Value) (x : Int32) (st : List Value) (G : mc_H), mc_ev X 168 35 [v0, .int x, v2, v3, v4] st G = mc_ev X 168 36 [v0, .int x, v2, v3, v4] (.int x :: st) G) ∧
  (∀ (x y : Int32) (ls st : List Value) (G : mc_H), mc_ev X 168 36 ls (.int y :: .int x :: st) G = mc_ev X 168 37 ls (.int (x * y) :: st) G) ∧
  (∀ (ls st : List Value) (G : mc_H), mc_ev X 168 37 ls st G = mc_ev X 168 39 ls (.int 12 :: st) G) ∧
  (∀ (v0 v1 v2 v4 : Value) (x : Int32) (st : List Value) (G : mc_H), mc_ev X 168 39 [v0, v1, v2, .int x, v4] st G = mc_ev X 168 40 [v0, v1, v2, .int x, v4] (.int x :: st) G) ∧
  (∀ (x y : Int32) (ls st : List Value) (G : mc_H), mc_ev X 168 40 ls (.int y :: .int x :: st) G = mc_ev X 168 41 ls (.int (x * y) :: st) G) ∧
  (∀ (x y : Int32) (ls st : List Value) (G : mc_H), mc_ev X 168 41 ls (.int y :: .int x :: st) G = mc_ev X 168 42 ls (.int (x + y) :: st) G) ∧
  (∀ (v0 v1 v2 v3 : Value) (x : Int32) (st : List Value) (G : mc_H), mc_ev X 168 42 [v0, v1, v2, v3, .int x] st G = mc_ev X 168 44 [v0, v1, v2, v3, .int x] (.int x :: st) G) ∧
  (∀ (x y : Int32) (ls st : List Value) (G : mc_H), mc_ev X 168 44 ls (.int y :: .int x :: st) G = mc_ev X 168 45 ls (.int (x + y) :: st) G) ∧
  (∀ (i : Int32) (r : Value) (ls st : List Value) (G : mc_H), mc_ev X 168 45 ls (.int i :: r :: st) G = (mc_getA X G 0 r i).bind (fun x => mc_ev X 168 46 ls (.int x :: st) G)) ∧
  (∀ (v : Int32) (ls : List Value) (G : mc_H), mc_ev X 168 46 ls [.int v] G = some (some (.int v), G)) := ⟨fun v1 v2 v3 v4 x st G => ev_aload_n rfl rfl,
  fun ls st G => ev_iconst rfl rfl,
  fun v r ls st G => ev_putfield rfl,
  fun v1 v2 v3 v4 x st G => ev_aload_n rfl rfl,
  fun v1 v2 v3 v4 x st G => ev_aload_n rfl rfl,
  fun v0 v2 v3 v4 x st G => ev_iload_n rfl rfl,
  fun v0 v1 v3 v4 x st G => ev_iload_n rfl rfl,
  fun v0 v1 v2 v4 x st G => ev_iload_n rfl rfl,
  fun v0 v1 v2 v3 x st G => ev_iload rfl rfl,
  fun a0 a1 a2 a3 r ls st G hr hG => ev_virt (As := [.int a0, .int a1, .int a2, .int a3]) rfl rfl rfl rfl rfl rfl hr hG,
  fun v r ls st G => ev_putfield rfl,
  fun v1 v2 v3 v4 x st G => ev_aload_n rfl rfl,
  fun r ls st G => ev_getfield rfl,
  fun x ls st G => ev_br rfl rfl,
  fun ls st G => ev_iconst rfl rfl,
  fun ls st G => ev_goto rfl rfl,
  fun v1 v2 v3 v4 x st G => ev_aload_n rfl rfl,
  fun r ls st G => ev_getfield rfl,
  fun ls st G => ev_bipush rfl rfl,
  fun v0 v2 v3 v4 x st G => ev_iload_n rfl rfl,
  fun x y ls st G => ev_imul rfl,
  fun ls st G => ev_bipush rfl rfl,
  fun v0 v1 v2 v4 x st G => ev_iload_n rfl rfl,
  fun x y ls st G => ev_imul rfl,
  fun x y ls st G => ev_iadd rfl,
  fun v0 v1 v2 v3 x st G => ev_iload rfl rfl,
  fun x y ls st G => ev_iadd rfl,
  fun i r ls st G => ev_iaload rfl,
  fun v ls G => ev_ireturn rfl rfl⟩
set_option maxRecDepth 100000 in
theorem e_169 {X : mc_X} : (∀ (v1 v2 : Value) (x : Int32) (st : List Value) (G : mc_H), mc_ev X 169 0 [.int x, v1, v2] st G = mc_ev X 169 1 [.int x, v1, v2] (.int x :: st) G) ∧
  (∀ (x : Int32) (ls st : List Value) (G : mc_H), mc_ev X 169 1 ls (.int x :: st) G = if x < 0 then mc_ev X 169 23 ls st G else mc_ev X 169 4 ls st G) ∧
  (∀ (v0 v2 : Value) (x : Int32) (st : List Value) (G : mc_H), mc_ev X 169 4 [v0, .int x, v2] st G = mc_ev X 169 5 [v0, .int x, v2] (.int x :: st) G) ∧
  (∀ (x : Int32) (ls st : List Value) (G : mc_H), mc_ev X 169 5 ls (.int x :: st) G = if x < 0 then mc_ev X 169 23 ls st G else mc_ev X 169 8 ls st G) ∧
  (∀ (v1 v2 : Value) (x : Int32) (st : List Value) (G : mc_H), mc_ev X 169 8 [.int x, v1, v2] st G = mc_ev X 169 9 [.int x, v1, v2] (.int x :: st) G) ∧
  (∀ (x : Int32) (ls st : List Value) (G : mc_H), mc_ev X 169 9 ls (.int x :: st) G = mc_ev X 169 10 ls (.long x.toInt64 :: st) G) ∧
  (∀ (v0 v2 : Value) (x : Int32) (st : List Value) (G : mc_H), mc_ev X 169 10 [v0, .int x, v2] st G = mc_ev X 169 11 [v0, .int x, v2] (.int x :: st) G) ∧
  (∀ (x : Int32) (ls st : List Value) (G : mc_H), mc_ev X 169 11 ls (.int x :: st) G = mc_ev X 169 12 ls (.long x.toInt64 :: st) G) ∧
  (∀ (x y : Int64) (ls st : List Value) (G : mc_H), mc_ev X 169 12 ls (.long y :: .long x :: st) G = mc_ev X 169 13 ls (.long (x + y) :: st) G) ∧
  (∀ (v0 v1 : Value) (x : Int32) (st : List Value) (G : mc_H), mc_ev X 169 13 [v0, v1, .int x] st G = mc_ev X 169 14 [v0, v1, .int x] (.int x :: st) G) ∧
  (∀ (x : Int32) (ls st : List Value) (G : mc_H), mc_ev X 169 14 ls (.int x :: st) G = mc_ev X 169 15 ls (.long x.toInt64 :: st) G) ∧
  (∀ (x y : Int64) (ls st : List Value) (G : mc_H), mc_ev X 169 15 ls (.long y :: .long x :: st) G = mc_ev X 169 16 ls (.int (lg_cmp x y) :: st) G) ∧
  (∀ (x : Int32) (ls st : List Value) (G : mc_H), mc_ev X 169 16 ls (.int x :: st) G = if 0 < x then mc_ev X 169 23 ls st G else mc_ev X 169 19 ls st G) ∧
  (∀ (ls st : List Value) (G : mc_H), mc_ev X 169 19 ls st G = mc_ev X 169 20 ls (.int 1 :: st) G) ∧
  (∀ (ls st : List Value) (G : mc_H), mc_ev X 169 20 ls st G = mc_ev X 169 24 ls st G) ∧
  (∀ (ls st : List Value) (G : mc_H), mc_ev X 169 23 ls st G = mc_ev X 169 24 ls (.int 0 :: st) G) ∧
  (∀ (v : Int32) (ls : List Value) (G : mc_H), (v = 0 ∨ v = 1) → mc_ev X 169 24 ls [.int v] G = some (some (.int v), G)) := ⟨fun v1 v2 x st G => ev_iload_n rfl rfl,
  fun x ls st G => ev_br rfl rfl,
  fun v0 v2 x st G => ev_iload_n rfl rfl,
  fun x ls st G => ev_br rfl rfl,
  fun v1 v2 x st G => ev_iload_n rfl rfl,
  fun x ls st G => ev_i2l rfl,
  fun v0 v2 x st G => ev_iload_n rfl rfl,
  fun x ls st G => ev_i2l rfl,
  fun x y ls st G => ev_ladd rfl,
  fun v0 v1 x st G => ev_iload_n rfl rfl,
  fun x ls st G => ev_i2l rfl,
  fun x y ls st G => ev_lcmp rfl,
  fun x ls st G => ev_br rfl rfl,
  fun ls st G => ev_iconst rfl rfl,
  fun ls st G => ev_goto rfl rfl,
  fun ls st G => ev_iconst rfl rfl,
  fun v ls G hv => ev_zreturn rfl rfl hv⟩
set_option maxRecDepth 100000 in
theorem h_170_205 {X : mc_X} : ∀ (v0 v1 v2 v3 v4 v5 v6 v7 v8 v9 : Value) (x : Int32) (st : List Value) (G : mc_H), mc_ev X 170 205 [v0, v1, v2, v3, v4, v5, v6, v7, v8, v9, .int x] st G = mc_ev X 170 207 [v0, v1, v2, v3, v4, v5, v6, v7, v8, v9, .int x] (.int x :: st) G := fun v0 v1 v2 v3 v4 v5 v6 v7 v8 v9 x st G => ev_iload rfl rfl
set_option maxRecDepth 100000 in
theorem h_170_247 {X : mc_X} : ∀ (v0 v1 v2 v3 v4 v5 v6 v7 v8 v9 : Value) (x : Int32) (st : List Value) (G : mc_H), mc_ev X 170 247 [v0, v1, v2, v3, v4, v5, v6, v7, v8, v9, .int x] st G = mc_ev X 170 249 [v0, v1, v2, v3, v4, v5, v6, v7, v8, v9, .int x] (.int x :: st) G := fun v0 v1 v2 v3 v4 v5 v6 v7 v8 v9 x st G => ev_iload rfl rfl
set_option maxRecDepth 100000 in
theorem e_170 {X : mc_X} : (∀ (v1 v2 v3 v4 v5 v6 v7 v8 v9 v10 : Value) (x : Nat) (st : List Value) (G : mc_H), mc_ev X 170 0 [.ref x, v1, v2, v3, v4, v5, v6, v7, v8, v9, v10] st G = mc_ev X 170 1 [.ref x, v1, v2, v3, v4, v5, v6, v7, v8, v9, v10] (.ref x :: st) G) ∧
  (∀ (ls st : List Value) (G : mc_H), mc_ev X 170 1 ls st G = mc_ev X 170 2 ls (.int 0 :: st) G) ∧
  (∀ (v : Value) (r : Nat) (ls st : List Value) (G : mc_H), mc_ev X 170 2 ls (v :: .ref r :: st) G = (mc_setf G r 8 0 v).bind (fun G' => mc_ev X 170 5 ls st G')) ∧
  (∀ (v1 v2 v3 v4 v5 v6 v7 v8 v9 v10 : Value) (x : Nat) (st : List Value) (G : mc_H), mc_ev X 170 5 [.ref x, v1, v2, v3, v4, v5, v6, v7, v8, v9, v10] st G = mc_ev X 170 6 [.ref x, v1, v2, v3, v4, v5, v6, v7, v8, v9, v10] (.ref x :: st) G) ∧
  (∀ (ls st : List Value) (G : mc_H), mc_ev X 170 6 ls st G = mc_ev X 170 7 ls (.int 0 :: st) G) ∧
  (∀ (v : Value) (r : Nat) (ls st : List Value) (G : mc_H), mc_ev X 170 7 ls (v :: .ref r :: st) G = (mc_setf G r 8 1 v).bind (fun G' => mc_ev X 170 10 ls st G')) ∧
  (∀ (v0 v2 v3 v4 v5 v6 v7 v8 v9 v10 : Value) (x : Int32) (st : List Value) (G : mc_H), mc_ev X 170 10 [v0, .int x, v2, v3, v4, v5, v6, v7, v8, v9, v10] st G = mc_ev X 170 11 [v0, .int x, v2, v3, v4, v5, v6, v7, v8, v9, v10] (.int x :: st) G) ∧
  (∀ (ls st : List Value) (G : mc_H), mc_ev X 170 11 ls st G = mc_ev X 170 12 ls (.int 0 :: st) G) ∧
  (∀ (ls st : List Value) (G : mc_H), mc_ev X 170 12 ls st G = mc_ev X 170 13 ls (.int 3 :: st) G) ∧
  (∀ (a0 : Int32) (a1 : Int32) (a2 : Int32) (ls st : List Value) (G : mc_H), st.length ≤ 4 → mc_ev X 170 13 ls (.int a2 :: .int a1 :: .int a0 :: st) G = (mc_ev X 112 0 [.int a0, .int a1, .int a2] [] G).bind (fun q => mc_ev X 170 16 ls (q.1.toList ++ st) q.2)) ∧
  (∀ (x : Int32) (ls st : List Value) (G : mc_H), mc_ev X 170 16 ls (.int x :: st) G = if x = 0 then mc_ev X 170 29 ls st G else mc_ev X 170 19 ls st G) ∧
  (∀ (v0 v1 v2 v3 v5 v6 v7 v8 v9 v10 : Value) (x : Int32) (st : List Value) (G : mc_H), mc_ev X 170 19 [v0, v1, v2, v3, .int x, v5, v6, v7, v8, v9, v10] st G = mc_ev X 170 21 [v0, v1, v2, v3, .int x, v5, v6, v7, v8, v9, v10] (.int x :: st) G) ∧
  (∀ (ls st : List Value) (G : mc_H), mc_ev X 170 21 ls st G = mc_ev X 170 22 ls (.int 0 :: st) G) ∧
  (∀ (ls st : List Value) (G : mc_H), mc_ev X 170 22 ls st G = mc_ev X 170 23 ls (.int 3 :: st) G) ∧
  (∀ (a0 : Int32) (a1 : Int32) (a2 : Int32) (ls st : List Value) (G : mc_H), st.length ≤ 4 → mc_ev X 170 23 ls (.int a2 :: .int a1 :: .int a0 :: st) G = (mc_ev X 112 0 [.int a0, .int a1, .int a2] [] G).bind (fun q => mc_ev X 170 26 ls (q.1.toList ++ st) q.2)) ∧
  (∀ (x : Int32) (ls st : List Value) (G : mc_H), mc_ev X 170 26 ls (.int x :: st) G = if x = 0 then mc_ev X 170 29 ls st G else mc_ev X 170 35 ls st G) ∧
  (∀ (v1 v2 v3 v4 v5 v6 v7 v8 v9 v10 : Value) (x : Nat) (st : List Value) (G : mc_H), mc_ev X 170 29 [.ref x, v1, v2, v3, v4, v5, v6, v7, v8, v9, v10] st G = mc_ev X 170 30 [.ref x, v1, v2, v3, v4, v5, v6, v7, v8, v9, v10] (.ref x :: st) G) ∧
  (∀ (ls st : List Value) (G : mc_H), mc_ev X 170 30 ls st G = mc_ev X 170 31 ls (.int (-1) :: st) G) ∧
  (∀ (a0 : Int32) (r : Nat) (ls st : List Value) (G : mc_H), st.length ≤ 4 → mc_cls G r = some 8 → mc_ev X 170 31 ls (.int a0 :: .ref r :: st) G = (mc_ev X 163 0 [.ref r, .int a0] [] G).bind (fun q => mc_ev X 170 34 ls (q.1.toList ++ st) q.2)) ∧
  (∀ (v : Int32) (ls : List Value) (G : mc_H), mc_ev X 170 34 ls [.int v] G = some (some (.int v), G)) ∧
  (∀ (v1 v2 v3 v4 v5 v6 v7 v8 v9 v10 : Value) (x : Nat) (st : List Value) (G : mc_H), mc_ev X 170 35 [.ref x, v1, v2, v3, v4, v5, v6, v7, v8, v9, v10] st G = mc_ev X 170 36 [.ref x, v1, v2, v3, v4, v5, v6, v7, v8, v9, v10] (.ref x :: st) G) ∧
  (∀ (r : Nat) (ls st : List Value) (G : mc_H), mc_ev X 170 36 ls (.ref r :: st) G = (mc_getf G r 8 12).bind (fun v => mc_ev X 170 39 ls (v :: st) G)) ∧
  (∀ (v0 v2 v3 v4 v5 v6 v7 v8 v9 v10 : Value) (x : Int32) (st : List Value) (G : mc_H), mc_ev X 170 39 [v0, .int x, v2, v3, v4, v5, v6, v7, v8, v9, v10] st G = mc_ev X 170 40 [v0, .int x, v2, v3, v4, v5, v6, v7, v8, v9, v10] (.int x :: st) G) ∧
  (∀ (i : Int32) (r : Value) (ls st : List Value) (G : mc_H), mc_ev X 170 40 ls (.int i :: r :: st) G = (mc_getA X G 1 r i).bind (fun x => mc_ev X 170 41 ls (.int x :: st) G)) ∧
  (∀ (x : Int32) (ls st : List Value) (G : mc_H), mc_ev X 170 41 ls (.int x :: st) G = if x = 0 then mc_ev X 170 54 ls st G else mc_ev X 170 44 ls st G) ∧
  (∀ (v1 v2 v3 v4 v5 v6 v7 v8 v9 v10 : Value) (x : Nat) (st : List Value) (G : mc_H), mc_ev X 170 44 [.ref x, v1, v2, v3, v4, v5, v6, v7, v8, v9, v10] st G = mc_ev X 170 45 [.ref x, v1, v2, v3, v4, v5, v6, v7, v8, v9, v10] (.ref x :: st) G) ∧
  (∀ (r : Nat) (ls st : List Value) (G : mc_H), mc_ev X 170 45 ls (.ref r :: st) G = (mc_getf G r 8 12).bind (fun v => mc_ev X 170 48 ls (v :: st) G)) ∧
  (∀ (v0 v1 v2 v3 v5 v6 v7 v8 v9 v10 : Value) (x : Int32) (st : List Value) (G : mc_H), mc_ev X 170 48 [v0, v1, v2, v3, .int x, v5, v6, v7, v8, v9, v10] st G = mc_ev X 170 50 [v0, v1, v2, v3, .int x, v5, v6, v7, v8, v9, v10] (.int x :: st) G) ∧
  (∀ (i : Int32) (r : Value) (ls st : List Value) (G : mc_H), mc_ev X 170 50 ls (.int i :: r :: st) G = (mc_getA X G 1 r i).bind (fun x => mc_ev X 170 51 ls (.int x :: st) G)) ∧
  (∀ (x : Int32) (ls st : List Value) (G : mc_H), mc_ev X 170 51 ls (.int x :: st) G = if x = 0 then mc_ev X 170 54 ls st G else mc_ev X 170 61 ls st G) ∧
  (∀ (v1 v2 v3 v4 v5 v6 v7 v8 v9 v10 : Value) (x : Nat) (st : List Value) (G : mc_H), mc_ev X 170 54 [.ref x, v1, v2, v3, v4, v5, v6, v7, v8, v9, v10] st G = mc_ev X 170 55 [.ref x, v1, v2, v3, v4, v5, v6, v7, v8, v9, v10] (.ref x :: st) G) ∧
  (∀ (ls st : List Value) (G : mc_H), mc_ev X 170 55 ls st G = mc_ev X 170 57 ls (.int (-11) :: st) G) ∧
  (∀ (a0 : Int32) (r : Nat) (ls st : List Value) (G : mc_H), st.length ≤ 4 → mc_cls G r = some 8 → mc_ev X 170 57 ls (.int a0 :: .ref r :: st) G = (mc_ev X 163 0 [.ref r, .int a0] [] G).bind (fun q => mc_ev X 170 60 ls (q.1.toList ++ st) q.2)) ∧
  (∀ (v : Int32) (ls : List Value) (G : mc_H), mc_ev X 170 60 ls [.int v] G = some (some (.int v), G)) ∧
  (∀ (v1 v2 v3 v4 v5 v6 v7 v8 v9 v10 : Value) (x : Nat) (st : List Value) (G : mc_H), mc_ev X 170 61 [.ref x, v1, v2, v3, v4, v5, v6, v7, v8, v9, v10] st G = mc_ev X 170 62 [.ref x, v1, v2, v3, v4, v5, v6, v7, v8, v9, v10] (.ref x :: st) G) ∧
  (∀ (r : Nat) (ls st : List Value) (G : mc_H), mc_ev X 170 62 ls (.ref r :: st) G = (mc_getf G r 8 13).bind (fun v => mc_ev X 170 65 ls (v :: st) G)) ∧
  (∀ (v0 v2 v3 v4 v5 v6 v7 v8 v9 v10 : Value) (x : Int32) (st : List Value) (G : mc_H), mc_ev X 170 65 [v0, .int x, v2, v3, v4, v5, v6, v7, v8, v9, v10] st G = mc_ev X 170 66 [v0, .int x, v2, v3, v4, v5, v6, v7, v8, v9, v10] (.int x :: st) G) ∧
  (∀ (i : Int32) (r : Value) (ls st : List Value) (G : mc_H), mc_ev X 170 66 ls (.int i :: r :: st) G = (mc_getA X G 0 r i).bind (fun x => mc_ev X 170 67 ls (.int x :: st) G)) ∧
  (∀ (v1 v2 v3 v4 v5 v6 v7 v8 v9 v10 : Value) (x : Nat) (st : List Value) (G : mc_H), mc_ev X 170 67 [.ref x, v1, v2, v3, v4, v5, v6, v7, v8, v9, v10] st G = mc_ev X 170 68 [.ref x, v1, v2, v3, v4, v5, v6, v7, v8, v9, v10] (.ref x :: st) G) ∧
  (∀ (r : Nat) (ls st : List Value) (G : mc_H), mc_ev X 170 68 ls (.ref r :: st) G = (mc_getf G r 8 13).bind (fun v => mc_ev X 170 71 ls (v :: st) G)) ∧
  (∀ (v0 v1 v2 v3 v5 v6 v7 v8 v9 v10 : Value) (x : Int32) (st : List Value) (G : mc_H), mc_ev X 170 71 [v0, v1, v2, v3, .int x, v5, v6, v7, v8, v9, v10] st G = mc_ev X 170 73 [v0, v1, v2, v3, .int x, v5, v6, v7, v8, v9, v10] (.int x :: st) G) ∧
  (∀ (i : Int32) (r : Value) (ls st : List Value) (G : mc_H), mc_ev X 170 73 ls (.int i :: r :: st) G = (mc_getA X G 0 r i).bind (fun x => mc_ev X 170 74 ls (.int x :: st) G)) ∧
  (∀ (x y : Int32) (ls st : List Value) (G : mc_H), mc_ev X 170 74 ls (.int y :: .int x :: st) G = if x = y then mc_ev X 170 84 ls st G else mc_ev X 170 77 ls st G) ∧
  (∀ (v1 v2 v3 v4 v5 v6 v7 v8 v9 v10 : Value) (x : Nat) (st : List Value) (G : mc_H), mc_ev X 170 77 [.ref x, v1, v2, v3, v4, v5, v6, v7, v8, v9, v10] st G = mc_ev X 170 78 [.ref x, v1, v2, v3, v4, v5, v6, v7, v8, v9, v10] (.ref x :: st) G) ∧
  (∀ (ls st : List Value) (G : mc_H), mc_ev X 170 78 ls st G = mc_ev X 170 80 ls (.int (-13) :: st) G) ∧
  (∀ (a0 : Int32) (r : Nat) (ls st : List Value) (G : mc_H), st.length ≤ 4 → mc_cls G r = some 8 → mc_ev X 170 80 ls (.int a0 :: .ref r :: st) G = (mc_ev X 163 0 [.ref r, .int a0] [] G).bind (fun q => mc_ev X 170 83 ls (q.1.toList ++ st) q.2)) ∧
  (∀ (v : Int32) (ls : List Value) (G : mc_H), mc_ev X 170 83 ls [.int v] G = some (some (.int v), G)) ∧
  (∀ (v0 v1 v3 v4 v5 v6 v7 v8 v9 v10 : Value) (x : Int32) (st : List Value) (G : mc_H), mc_ev X 170 84 [v0, v1, .int x, v3, v4, v5, v6, v7, v8, v9, v10] st G = mc_ev X 170 85 [v0, v1, .int x, v3, v4, v5, v6, v7, v8, v9, v10] (.int x :: st) G) ∧
  (∀ (ls st : List Value) (G : mc_H), mc_ev X 170 85 ls st G = mc_ev X 170 86 ls (.int 0 :: st) G) ∧
  (∀ (v1 v2 v3 v4 v5 v6 v7 v8 v9 v10 : Value) (x : Nat) (st : List Value) (G : mc_H), mc_ev X 170 86 [.ref x, v1, v2, v3, v4, v5, v6, v7, v8, v9, v10] st G = mc_ev X 170 87 [.ref x, v1, v2, v3, v4, v5, v6, v7, v8, v9, v10] (.ref x :: st) G) ∧
  (∀ (r : Nat) (ls st : List Value) (G : mc_H), mc_ev X 170 87 ls (.ref r :: st) G = (mc_getf G r 8 14).bind (fun v => mc_ev X 170 90 ls (v :: st) G)) ∧
  (∀ (v0 v2 v3 v4 v5 v6 v7 v8 v9 v10 : Value) (x : Int32) (st : List Value) (G : mc_H), mc_ev X 170 90 [v0, .int x, v2, v3, v4, v5, v6, v7, v8, v9, v10] st G = mc_ev X 170 91 [v0, .int x, v2, v3, v4, v5, v6, v7, v8, v9, v10] (.int x :: st) G) ∧
  (∀ (i : Int32) (r : Value) (ls st : List Value) (G : mc_H), mc_ev X 170 91 ls (.int i :: r :: st) G = (mc_getA X G 0 r i).bind (fun x => mc_ev X 170 92 ls (.int x :: st) G)) ∧
  (∀ (ls st : List Value) (G : mc_H), mc_ev X 170 92 ls st G = mc_ev X 170 93 ls (.int 1 :: st) G) ∧
  (∀ (x y : Int32) (ls st : List Value) (G : mc_H), mc_ev X 170 93 ls (.int y :: .int x :: st) G = mc_ev X 170 94 ls (.int (x - y) :: st) G) ∧
  (∀ (a0 : Int32) (a1 : Int32) (a2 : Int32) (ls st : List Value) (G : mc_H), st.length ≤ 4 → mc_ev X 170 94 ls (.int a2 :: .int a1 :: .int a0 :: st) G = (mc_ev X 112 0 [.int a0, .int a1, .int a2] [] G).bind (fun q => mc_ev X 170 97 ls (q.1.toList ++ st) q.2)) ∧
  (∀ (x : Int32) (ls st : List Value) (G : mc_H), mc_ev X 170 97 ls (.int x :: st) G = if x = 0 then mc_ev X 170 118 ls st G else mc_ev X 170 100 ls st G) ∧
  (∀ (v0 v1 v2 v3 v4 v6 v7 v8 v9 v10 : Value) (x : Int32) (st : List Value) (G : mc_H), mc_ev X 170 100 [v0, v1, v2, v3, v4, .int x, v6, v7, v8, v9, v10] st G = mc_ev X 170 102 [v0, v1, v2, v3, v4, .int x, v6, v7, v8, v9, v10] (.int x :: st) G) ∧
  (∀ (ls st : List Value) (G : mc_H), mc_ev X 170 102 ls st G = mc_ev X 170 103 ls (.int 0 :: st) G) ∧
  (∀ (v1 v2 v3 v4 v5 v6 v7 v8 v9 v10 : Value) (x : Nat) (st : List Value) (G : mc_H), mc_ev X 170 103 [.ref x, v1, v2, v3, v4, v5, v6, v7, v8, v9, v10] st G = mc_ev X 170 104 [.ref x, v1, v2, v3, v4, v5, v6, v7, v8, v9, v10] (.ref x :: st) G) ∧
  (∀ (r : Nat) (ls st : List Value) (G : mc_H), mc_ev X 170 104 ls (.ref r :: st) G = (mc_getf G r 8 14).bind (fun v => mc_ev X 170 107 ls (v :: st) G)) ∧
  (∀ (v0 v1 v2 v3 v5 v6 v7 v8 v9 v10 : Value) (x : Int32) (st : List Value) (G : mc_H), mc_ev X 170 107 [v0, v1, v2, v3, .int x, v5, v6, v7, v8, v9, v10] st G = mc_ev X 170 109 [v0, v1, v2, v3, .int x, v5, v6, v7, v8, v9, v10] (.int x :: st) G) ∧
  (∀ (i : Int32) (r : Value) (ls st : List Value) (G : mc_H), mc_ev X 170 109 ls (.int i :: r :: st) G = (mc_getA X G 0 r i).bind (fun x => mc_ev X 170 110 ls (.int x :: st) G)) ∧
  (∀ (ls st : List Value) (G : mc_H), mc_ev X 170 110 ls st G = mc_ev X 170 111 ls (.int 1 :: st) G) ∧
  (∀ (x y : Int32) (ls st : List Value) (G : mc_H), mc_ev X 170 111 ls (.int y :: .int x :: st) G = mc_ev X 170 112 ls (.int (x - y) :: st) G) ∧
  (∀ (a0 : Int32) (a1 : Int32) (a2 : Int32) (ls st : List Value) (G : mc_H), st.length ≤ 4 → mc_ev X 170 112 ls (.int a2 :: .int a1 :: .int a0 :: st) G = (mc_ev X 112 0 [.int a0, .int a1, .int a2] [] G).bind (fun q => mc_ev X 170 115 ls (q.1.toList ++ st) q.2)) ∧
  (∀ (x : Int32) (ls st : List Value) (G : mc_H), mc_ev X 170 115 ls (.int x :: st) G = if x = 0 then mc_ev X 170 118 ls st G else mc_ev X 170 125 ls st G) ∧
  (∀ (v1 v2 v3 v4 v5 v6 v7 v8 v9 v10 : Value) (x : Nat) (st : List Value) (G : mc_H), mc_ev X 170 118 [.ref x, v1, v2, v3, v4, v5, v6, v7, v8, v9, v10] st G = mc_ev X 170 119 [.ref x, v1, v2, v3, v4, v5, v6, v7, v8, v9, v10] (.ref x :: st) G) ∧
  (∀ (ls st : List Value) (G : mc_H), mc_ev X 170 119 ls st G = mc_ev X 170 121 ls (.int (-12) :: st) G) ∧
  (∀ (a0 : Int32) (r : Nat) (ls st : List Value) (G : mc_H), st.length ≤ 4 → mc_cls G r = some 8 → mc_ev X 170 121 ls (.int a0 :: .ref r :: st) G = (mc_ev X 163 0 [.ref r, .int a0] [] G).bind (fun q => mc_ev X 170 124 ls (q.1.toList ++ st) q.2)) ∧
  (∀ (v : Int32) (ls : List Value) (G : mc_H), mc_ev X 170 124 ls [.int v] G = some (some (.int v), G)) ∧
  (∀ (v1 v2 v3 v4 v5 v6 v7 v8 v9 v10 : Value) (x : Nat) (st : List Value) (G : mc_H), mc_ev X 170 125 [.ref x, v1, v2, v3, v4, v5, v6, v7, v8, v9, v10] st G = mc_ev X 170 126 [.ref x, v1, v2, v3, v4, v5, v6, v7, v8, v9, v10] (.ref x :: st) G) ∧
  (∀ (r : Nat) (ls st : List Value) (G : mc_H), mc_ev X 170 126 ls (.ref r :: st) G = (mc_getf G r 8 15).bind (fun v => mc_ev X 170 129 ls (v :: st) G)) ∧
  (∀ (ls st : List Value) (G : mc_H), mc_ev X 170 129 ls st G = mc_ev X 170 130 ls (.int 4 :: st) G) ∧
  (∀ (v0 v2 v3 v4 v5 v6 v7 v8 v9 v10 : Value) (x : Int32) (st : List Value) (G : mc_H), mc_ev X 170 130 [v0, .int x, v2, v3, v4, v5, v6, v7, v8, v9, v10] st G = mc_ev X 170 131 [v0, .int x, v2, v3, v4, v5, v6, v7, v8, v9, v10] (.int x :: st) G) ∧
  (∀ (x y : Int32) (ls st : List Value) (G : mc_H), mc_ev X 170 131 ls (.int y :: .int x :: st) G = mc_ev X 170 132 ls (.int (x * y) :: st) G) ∧
  (∀ (v0 v1 v3 v4 v5 v6 v7 v8 v9 v10 : Value) (x : Int32) (st : List Value) (G : mc_H), mc_ev X 170 132 [v0, v1, .int x, v3, v4, v5, v6, v7, v8, v9, v10] st G = mc_ev X 170 133 [v0, v1, .int x, v3, v4, v5, v6, v7, v8, v9, v10] (.int x :: st) G) ∧
  (∀ (x y : Int32) (ls st : List Value) (G : mc_H), mc_ev X 170 133 ls (.int y :: .int x :: st) G = mc_ev X 170 134 ls (.int (x + y) :: st) G) ∧
  (∀ (i : Int32) (r : Value) (ls st : List Value) (G : mc_H), mc_ev X 170 134 ls (.int i :: r :: st) G = (mc_getA X G 0 r i).bind (fun x => mc_ev X 170 135 ls (.int x :: st) G)) ∧
  (∀ (v0 v1 v2 v3 v4 v5 v6 v7 v8 v9 v10 : Value) (x : Int32) (st : List Value) (G : mc_H), mc_ev X 170 135 [v0, v1, v2, v3, v4, v5, v6, v7, v8, v9, v10] (.int x :: st) G = mc_ev X 170 137 [v0, v1, v2, v3, v4, v5, v6, v7, .int x, v9, v10] st G) ∧
  (∀ (v1 v2 v3 v4 v5 v6 v7 v8 v9 v10 : Value) (x : Nat) (st : List Value) (G : mc_H), mc_ev X 170 137 [.ref x, v1, v2, v3, v4, v5, v6, v7, v8, v9, v10] st G = mc_ev X 170 138 [.ref x, v1, v2, v3, v4, v5, v6, v7, v8, v9, v10] (.ref x :: st) G) ∧
  (∀ (r : Nat) (ls st : List Value) (G : mc_H), mc_ev X 170 138 ls (.ref r :: st) G = (mc_getf G r 8 15).bind (fun v => mc_ev X 170 141 ls (v :: st) G)) ∧
  (∀ (ls st : List Value) (G : mc_H), mc_ev X 170 141 ls st G = mc_ev X 170 142 ls (.int 4 :: st) G) ∧
  (∀ (v0 v1 v2 v3 v5 v6 v7 v8 v9 v10 : Value) (x : Int32) (st : List Value) (G : mc_H), mc_ev X 170 142 [v0, v1, v2, v3, .int x, v5, v6, v7, v8, v9, v10] st G = mc_ev X 170 144 [v0, v1, v2, v3, .int x, v5, v6, v7, v8, v9, v10] (.int x :: st) G) ∧
  (∀ (x y : Int32) (ls st : List Value) (G : mc_H), mc_ev X 170 144 ls (.int y :: .int x :: st) G = mc_ev X 170 145 ls (.int (x * y) :: st) G) ∧
  (∀ (v0 v1 v2 v3 v4 v6 v7 v8 v9 v10 : Value) (x : Int32) (st : List Value) (G : mc_H), mc_ev X 170 145 [v0, v1, v2, v3, v4, .int x, v6, v7, v8, v9, v10] st G = mc_ev X 170 147 [v0, v1, v2, v3, v4, .int x, v6, v7, v8, v9, v10] (.int x :: st) G) ∧
  (∀ (x y : Int32) (ls st : List Value) (G : mc_H), mc_ev X 170 147 ls (.int y :: .int x :: st) G = mc_ev X 170 148 ls (.int (x + y) :: st) G) ∧
  (∀ (i : Int32) (r : Value) (ls st : List Value) (G : mc_H), mc_ev X 170 148 ls (.int i :: r :: st) G = (mc_getA X G 0 r i).bind (fun x => mc_ev X 170 149 ls (.int x :: st) G)) ∧
  (∀ (v0 v1 v2 v3 v4 v5 v6 v7 v8 v9 v10 : Value) (x : Int32) (st : List Value) (G : mc_H), mc_ev X 170 149 [v0, v1, v2, v3, v4, v5, v6, v7, v8, v9, v10] (.int x :: st) G = mc_ev X 170 151 [v0, v1, v2, v3, v4, v5, v6, v7, v8, .int x, v10] st G) ∧
  (∀ (v0 v1 v2 v3 v4 v5 v6 v7 v9 v10 : Value) (x : Int32) (st : List Value) (G : mc_H), mc_ev X 170 151 [v0, v1, v2, v3, v4, v5, v6, v7, .int x, v9, v10] st G = mc_ev X 170 153 [v0, v1, v2, v3, v4, v5, v6, v7, .int x, v9, v10] (.int x :: st) G) ∧
  (∀ (ls st : List Value) (G : mc_H), mc_ev X 170 153 ls st G = mc_ev X 170 155 ls (.int (-9) :: st) G) ∧
  (∀ (x y : Int32) (ls st : List Value) (G : mc_H), mc_ev X 170 155 ls (.int y :: .int x :: st) G = if x = y then mc_ev X 170 165 ls st G else mc_ev X 170 158 ls st G) ∧
  (∀ (v0 v1 v2 v3 v4 v5 v6 v7 v8 v10 : Value) (x : Int32) (st : List Value) (G : mc_H), mc_ev X 170 158 [v0, v1, v2, v3, v4, v5, v6, v7, v8, .int x, v10] st G = mc_ev X 170 160 [v0, v1, v2, v3, v4, v5, v6, v7, v8, .int x, v10] (.int x :: st) G) ∧
  (∀ (ls st : List Value) (G : mc_H), mc_ev X 170 160 ls st G = mc_ev X 170 162 ls (.int (-9) :: st) G) ∧
  (∀ (x y : Int32) (ls st : List Value) (G : mc_H), mc_ev X 170 162 ls (.int y :: .int x :: st) G = if x = y then mc_ev X 170 165 ls st G else mc_ev X 170 172 ls st G) ∧
  (∀ (v1 v2 v3 v4 v5 v6 v7 v8 v9 v10 : Value) (x : Nat) (st : List Value) (G : mc_H), mc_ev X 170 165 [.ref x, v1, v2, v3, v4, v5, v6, v7, v8, v9, v10] st G = mc_ev X 170 166 [.ref x, v1, v2, v3, v4, v5, v6, v7, v8, v9, v10] (.ref x :: st) G) ∧
  (∀ (ls st : List Value) (G : mc_H), mc_ev X 170 166 ls st G = mc_ev X 170 168 ls (.int (-11) :: st) G) ∧
  (∀ (a0 : Int32) (r : Nat) (ls st : List Value) (G : mc_H), st.length ≤ 4 → mc_cls G r = some 8 → mc_ev X 170 168 ls (.int a0 :: .ref r :: st) G = (mc_ev X 163 0 [.ref r, .int a0] [] G).bind (fun q => mc_ev X 170 171 ls (q.1.toList ++ st) q.2)) ∧
  (∀ (v : Int32) (ls : List Value) (G : mc_H), mc_ev X 170 171 ls [.int v] G = some (some (.int v), G)) ∧
  (∀ (v0 v1 v2 v4 v5 v6 v7 v8 v9 v10 : Value) (x : Int32) (st : List Value) (G : mc_H), mc_ev X 170 172 [v0, v1, v2, .int x, v4, v5, v6, v7, v8, v9, v10] st G = mc_ev X 170 173 [v0, v1, v2, .int x, v4, v5, v6, v7, v8, v9, v10] (.int x :: st) G) ∧
  (∀ (v0 v1 v2 v3 v4 v5 v6 v8 v9 v10 : Value) (x : Int32) (st : List Value) (G : mc_H), mc_ev X 170 173 [v0, v1, v2, v3, v4, v5, v6, .int x, v8, v9, v10] st G = mc_ev X 170 175 [v0, v1, v2, v3, v4, v5, v6, .int x, v8, v9, v10] (.int x :: st) G) ∧
  (∀ (v0 v1 v2 v3 v4 v5 v6 v7 v9 v10 : Value) (x : Int32) (st : List Value) (G : mc_H), mc_ev X 170 175 [v0, v1, v2, v3, v4, v5, v6, v7, .int x, v9, v10] st G = mc_ev X 170 177 [v0, v1, v2, v3, v4, v5, v6, v7, .int x, v9, v10] (.int x :: st) G) ∧
  (∀ (a0 : Int32) (a1 : Int32) (a2 : Int32) (ls st : List Value) (G : mc_H), st.length ≤ 4 → mc_ev X 170 177 ls (.int a2 :: .int a1 :: .int a0 :: st) G = (mc_ev X 169 0 [.int a0, .int a1, .int a2] [] G).bind (fun q => mc_ev X 170 180 ls (q.1.toList ++ st) q.2)) ∧
  (∀ (x : Int32) (ls st : List Value) (G : mc_H), mc_ev X 170 180 ls (.int x :: st) G = if x = 0 then mc_ev X 170 195 ls st G else mc_ev X 170 183 ls st G) ∧
  (∀ (v0 v1 v2 v3 v4 v5 v7 v8 v9 v10 : Value) (x : Int32) (st : List Value) (G : mc_H), mc_ev X 170 183 [v0, v1, v2, v3, v4, v5, .int x, v7, v8, v9, v10] st G = mc_ev X 170 185 [v0, v1, v2, v3, v4, v5, .int x, v7, v8, v9, v10] (.int x :: st) G) ∧
  (∀ (v0 v1 v2 v3 v4 v5 v6 v8 v9 v10 : Value) (x : Int32) (st : List Value) (G : mc_H), mc_ev X 170 185 [v0, v1, v2, v3, v4, v5, v6, .int x, v8, v9, v10] st G = mc_ev X 170 187 [v0, v1, v2, v3, v4, v5, v6, .int x, v8, v9, v10] (.int x :: st) G) ∧
  (∀ (v0 v1 v2 v3 v4 v5 v6 v7 v8 v10 : Value) (x : Int32) (st : List Value) (G : mc_H), mc_ev X 170 187 [v0, v1, v2, v3, v4, v5, v6, v7, v8, .int x, v10] st G = mc_ev X 170 189 [v0, v1, v2, v3, v4, v5, v6, v7, v8, .int x, v10] (.int x :: st) G) ∧
  (∀ (a0 : Int32) (a1 : Int32) (a2 : Int32) (ls st : List Value) (G : mc_H), st.length ≤ 4 → mc_ev X 170 189 ls (.int a2 :: .int a1 :: .int a0 :: st) G = (mc_ev X 169 0 [.int a0, .int a1, .int a2] [] G).bind (fun q => mc_ev X 170 192 ls (q.1.toList ++ st) q.2)) ∧
  (∀ (x : Int32) (ls st : List Value) (G : mc_H), mc_ev X 170 192 ls (.int x :: st) G = if x = 0 then mc_ev X 170 195 ls st G else mc_ev X 170 202 ls st G) ∧
  (∀ (v1 v2 v3 v4 v5 v6 v7 v8 v9 v10 : Value) (x : Nat) (st : List Value) (G : mc_H), mc_ev X 170 195 [.ref x, v1, v2, v3, v4, v5, v6, v7, v8, v9, v10] st G = mc_ev X 170 196 [.ref x, v1, v2, v3, v4, v5, v6, v7, v8, v9, v10] (.ref x :: st) G) ∧
  (∀ (ls st : List Value) (G : mc_H), mc_ev X 170 196 ls st G = mc_ev X 170 198 ls (.int (-12) :: st) G) ∧
  (∀ (a0 : Int32) (r : Nat) (ls st : List Value) (G : mc_H), st.length ≤ 4 → mc_cls G r = some 8 → mc_ev X 170 198 ls (.int a0 :: .ref r :: st) G = (mc_ev X 163 0 [.ref r, .int a0] [] G).bind (fun q => mc_ev X 170 201 ls (q.1.toList ++ st) q.2)) ∧
  (∀ (v : Int32) (ls : List Value) (G : mc_H), mc_ev X 170 201 ls [.int v] G = some (some (.int v), G)) ∧
  (∀ (ls st : List Value) (G : mc_H), mc_ev X 170 202 ls st G = mc_ev X 170 203 ls (.int 0 :: st) G) ∧
  (∀ (v0 v1 v2 v3 v4 v5 v6 v7 v8 v9 v10 : Value) (x : Int32) (st : List Value) (G : mc_H), mc_ev X 170 203 [v0, v1, v2, v3, v4, v5, v6, v7, v8, v9, v10] (.int x :: st) G = mc_ev X 170 205 [v0, v1, v2, v3, v4, v5, v6, v7, v8, v9, .int x] st G) ∧
  (∀ (v0 v1 v2 v3 v4 v5 v6 v8 v9 v10 : Value) (x : Int32) (st : List Value) (G : mc_H), mc_ev X 170 207 [v0, v1, v2, v3, v4, v5, v6, .int x, v8, v9, v10] st G = mc_ev X 170 209 [v0, v1, v2, v3, v4, v5, v6, .int x, v8, v9, v10] (.int x :: st) G) ∧
  (∀ (x y : Int32) (ls st : List Value) (G : mc_H), mc_ev X 170 209 ls (.int y :: .int x :: st) G = if x < y then mc_ev X 170 212 ls st G else mc_ev X 170 244 ls st G) ∧
  (∀ (v1 v2 v3 v4 v5 v6 v7 v8 v9 v10 : Value) (x : Nat) (st : List Value) (G : mc_H), mc_ev X 170 212 [.ref x, v1, v2, v3, v4, v5, v6, v7, v8, v9, v10] st G = mc_ev X 170 213 [.ref x, v1, v2, v3, v4, v5, v6, v7, v8, v9, v10] (.ref x :: st) G) ∧
  (∀ (r : Nat) (ls st : List Value) (G : mc_H), mc_ev X 170 213 ls (.ref r :: st) G = (mc_getf G r 8 17).bind (fun v => mc_ev X 170 216 ls (v :: st) G)) ∧
  (∀ (v0 v1 v2 v3 v4 v5 v6 v7 v8 v9 : Value) (x : Int32) (st : List Value) (G : mc_H), mc_ev X 170 216 [v0, v1, v2, v3, v4, v5, v6, v7, v8, v9, .int x] st G = mc_ev X 170 218 [v0, v1, v2, v3, v4, v5, v6, v7, v8, v9, .int x] (.int x :: st) G) ∧
  (∀ (v1 v2 v3 v4 v5 v6 v7 v8 v9 v10 : Value) (x : Nat) (st : List Value) (G : mc_H), mc_ev X 170 218 [.ref x, v1, v2, v3, v4, v5, v6, v7, v8, v9, v10] st G = mc_ev X 170 219 [.ref x, v1, v2, v3, v4, v5, v6, v7, v8, v9, v10] (.ref x :: st) G) ∧
  (∀ (r : Nat) (ls st : List Value) (G : mc_H), mc_ev X 170 219 ls (.ref r :: st) G = (mc_getf G r 8 16).bind (fun v => mc_ev X 170 222 ls (v :: st) G)) ∧
  (∀ (ls st : List Value) (G : mc_H), mc_ev X 170 222 ls st G = mc_ev X 170 224 ls (.int 48 :: st) G) ∧
  (∀ (v0 v2 v3 v4 v5 v6 v7 v8 v9 v10 : Value) (x : Int32) (st : List Value) (G : mc_H), mc_ev X 170 224 [v0, .int x, v2, v3, v4, v5, v6, v7, v8, v9, v10] st G = mc_ev X 170 225 [v0, .int x, v2, v3, v4, v5, v6, v7, v8, v9, v10] (.int x :: st) G) ∧
  (∀ (x y : Int32) (ls st : List Value) (G : mc_H), mc_ev X 170 225 ls (.int y :: .int x :: st) G = mc_ev X 170 226 ls (.int (x * y) :: st) G) ∧
  (∀ (ls st : List Value) (G : mc_H), mc_ev X 170 226 ls st G = mc_ev X 170 228 ls (.int 12 :: st) G) ∧
  (∀ (v0 v1 v3 v4 v5 v6 v7 v8 v9 v10 : Value) (x : Int32) (st : List Value) (G : mc_H), mc_ev X 170 228 [v0, v1, .int x, v3, v4, v5, v6, v7, v8, v9, v10] st G = mc_ev X 170 229 [v0, v1, .int x, v3, v4, v5, v6, v7, v8, v9, v10] (.int x :: st) G) ∧
  (∀ (x y : Int32) (ls st : List Value) (G : mc_H), mc_ev X 170 229 ls (.int y :: .int x :: st) G = mc_ev X 170 230 ls (.int (x * y) :: st) G) ∧
  (∀ (x y : Int32) (ls st : List Value) (G : mc_H), mc_ev X 170 230 ls (.int y :: .int x :: st) G = mc_ev X 170 231 ls (.int (x + y) :: st) G) ∧
  (∀ (v0 v1 v2 v4 v5 v6 v7 v8 v9 v10 : Value) (x : Int32) (st : List Value) (G : mc_H), mc_ev X 170 231 [v0, v1, v2, .int x, v4, v5, v6, v7, v8, v9, v10] st G = mc_ev X 170 232 [v0, v1, v2, .int x, v4, v5, v6, v7, v8, v9, v10] (.int x :: st) G) ∧
  (∀ (x y : Int32) (ls st : List Value) (G : mc_H), mc_ev X 170 232 ls (.int y :: .int x :: st) G = mc_ev X 170 233 ls (.int (x + y) :: st) G) ∧
  (∀ (v0 v1 v2 v3 v4 v5 v6 v7 v8 v9 : Value) (x : Int32) (st : List Value) (G : mc_H), mc_ev X 170 233 [v0, v1, v2, v3, v4, v5, v6, v7, v8, v9, .int x] st G = mc_ev X 170 235 [v0, v1, v2, v3, v4, v5, v6, v7, v8, v9, .int x] (.int x :: st) G) ∧
  (∀ (x y : Int32) (ls st : List Value) (G : mc_H), mc_ev X 170 235 ls (.int y :: .int x :: st) G = mc_ev X 170 236 ls (.int (x + y) :: st) G) ∧
  (∀ (i : Int32) (r : Value) (ls st : List Value) (G : mc_H), mc_ev X 170 236 ls (.int i :: r :: st) G = (mc_getA X G 0 r i).bind (fun x => mc_ev X 170 237 ls (.int x :: st) G)) ∧
  (∀ (x i : Int32) (r : Nat) (ls st : List Value) (G : mc_H), mc_ev X 170 237 ls (.int x :: .int i :: .ref r :: st) G = (mc_setA G 0 r i x).bind (fun G' => mc_ev X 170 238 ls st G')) ∧
  (∀ (v0 v1 v2 v3 v4 v5 v6 v7 v8 v9 : Value) (x : Int32) (st : List Value) (G : mc_H), mc_ev X 170 238 [v0, v1, v2, v3, v4, v5, v6, v7, v8, v9, .int x] st G = mc_ev X 170 241 [v0, v1, v2, v3, v4, v5, v6, v7, v8, v9, .int (x + 1)] st G) ∧
  (∀ (ls st : List Value) (G : mc_H), mc_ev X 170 241 ls st G = mc_ev X 170 205 ls st G) ∧
  (∀ (ls st : List Value) (G : mc_H), mc_ev X 170 244 ls st G = mc_ev X 170 245 ls (.int 0 :: st) G) ∧
  (∀ (v0 v1 v2 v3 v4 v5 v6 v7 v8 v9 v10 : Value) (x : Int32) (st : List Value) (G : mc_H), mc_ev X 170 245 [v0, v1, v2, v3, v4, v5, v6, v7, v8, v9, v10] (.int x :: st) G = mc_ev X 170 247 [v0, v1, v2, v3, v4, v5, v6, v7, v8, v9, .int x] st G) ∧
  (∀ (v0 v1 v2 v3 v4 v5 v6 v8 v9 v10 : Value) (x : Int32) (st : List Value) (G : mc_H), mc_ev X 170 249 [v0, v1, v2, v3, v4, v5, v6, .int x, v8, v9, v10] st G = mc_ev X 170 251 [v0, v1, v2, v3, v4, v5, v6, .int x, v8, v9, v10] (.int x :: st) G) ∧
  (∀ (x y : Int32) (ls st : List Value) (G : mc_H), mc_ev X 170 251 ls (.int y :: .int x :: st) G = if x < y then mc_ev X 170 254 ls st G else mc_ev X 170 289 ls st G) ∧
  (∀ (v1 v2 v3 v4 v5 v6 v7 v8 v9 v10 : Value) (x : Nat) (st : List Value) (G : mc_H), mc_ev X 170 254 [.ref x, v1, v2, v3, v4, v5, v6, v7, v8, v9, v10] st G = mc_ev X 170 255 [.ref x, v1, v2, v3, v4, v5, v6, v7, v8, v9, v10] (.ref x :: st) G) ∧
  (∀ (r : Nat) (ls st : List Value) (G : mc_H), mc_ev X 170 255 ls (.ref r :: st) G = (mc_getf G r 8 16).bind (fun v => mc_ev X 170 258 ls (v :: st) G)) ∧
  (∀ (ls st : List Value) (G : mc_H), mc_ev X 170 258 ls st G = mc_ev X 170 260 ls (.int 48 :: st) G) ∧
  (∀ (v0 v1 v2 v3 v5 v6 v7 v8 v9 v10 : Value) (x : Int32) (st : List Value) (G : mc_H), mc_ev X 170 260 [v0, v1, v2, v3, .int x, v5, v6, v7, v8, v9, v10] st G = mc_ev X 170 262 [v0, v1, v2, v3, .int x, v5, v6, v7, v8, v9, v10] (.int x :: st) G) ∧
  (∀ (x y : Int32) (ls st : List Value) (G : mc_H), mc_ev X 170 262 ls (.int y :: .int x :: st) G = mc_ev X 170 263 ls (.int (x * y) :: st) G) ∧
  (∀ (ls st : List Value) (G : mc_H), mc_ev X 170 263 ls st G = mc_ev X 170 265 ls (.int 12 :: st) G) ∧
  (∀ (v0 v1 v2 v3 v4 v6 v7 v8 v9 v10 : Value) (x : Int32) (st : List Value) (G : mc_H), mc_ev X 170 265 [v0, v1, v2, v3, v4, .int x, v6, v7, v8, v9, v10] st G = mc_ev X 170 267 [v0, v1, v2, v3, v4, .int x, v6, v7, v8, v9, v10] (.int x :: st) G) ∧
  (∀ (x y : Int32) (ls st : List Value) (G : mc_H), mc_ev X 170 267 ls (.int y :: .int x :: st) G = mc_ev X 170 268 ls (.int (x * y) :: st) G) ∧
  (∀ (x y : Int32) (ls st : List Value) (G : mc_H), mc_ev X 170 268 ls (.int y :: .int x :: st) G = mc_ev X 170 269 ls (.int (x + y) :: st) G) ∧
  (∀ (v0 v1 v2 v3 v4 v5 v7 v8 v9 v10 : Value) (x : Int32) (st : List Value) (G : mc_H), mc_ev X 170 269 [v0, v1, v2, v3, v4, v5, .int x, v7, v8, v9, v10] st G = mc_ev X 170 271 [v0, v1, v2, v3, v4, v5, .int x, v7, v8, v9, v10] (.int x :: st) G) ∧
  (∀ (x y : Int32) (ls st : List Value) (G : mc_H), mc_ev X 170 271 ls (.int y :: .int x :: st) G = mc_ev X 170 272 ls (.int (x + y) :: st) G) ∧
  (∀ (v0 v1 v2 v3 v4 v5 v6 v7 v8 v9 : Value) (x : Int32) (st : List Value) (G : mc_H), mc_ev X 170 272 [v0, v1, v2, v3, v4, v5, v6, v7, v8, v9, .int x] st G = mc_ev X 170 274 [v0, v1, v2, v3, v4, v5, v6, v7, v8, v9, .int x] (.int x :: st) G) ∧
  (∀ (x y : Int32) (ls st : List Value) (G : mc_H), mc_ev X 170 274 ls (.int y :: .int x :: st) G = mc_ev X 170 275 ls (.int (x + y) :: st) G) ∧
  (∀ (v1 v2 v3 v4 v5 v6 v7 v8 v9 v10 : Value) (x : Nat) (st : List Value) (G : mc_H), mc_ev X 170 275 [.ref x, v1, v2, v3, v4, v5, v6, v7, v8, v9, v10] st G = mc_ev X 170 276 [.ref x, v1, v2, v3, v4, v5, v6, v7, v8, v9, v10] (.ref x :: st) G) ∧
  (∀ (r : Nat) (ls st : List Value) (G : mc_H), mc_ev X 170 276 ls (.ref r :: st) G = (mc_getf G r 8 17).bind (fun v => mc_ev X 170 279 ls (v :: st) G)) ∧
  (∀ (v0 v1 v2 v3 v4 v5 v6 v7 v8 v9 : Value) (x : Int32) (st : List Value) (G : mc_H), mc_ev X 170 279 [v0, v1, v2, v3, v4, v5, v6, v7, v8, v9, .int x] st G = mc_ev X 170 281 [v0, v1, v2, v3, v4, v5, v6, v7, v8, v9, .int x] (.int x :: st) G) ∧
  (∀ (i : Int32) (r : Value) (ls st : List Value) (G : mc_H), mc_ev X 170 281 ls (.int i :: r :: st) G = (mc_getA X G 0 r i).bind (fun x => mc_ev X 170 282 ls (.int x :: st) G)) ∧
  (∀ (x i : Int32) (r : Nat) (ls st : List Value) (G : mc_H), mc_ev X 170 282 ls (.int x :: .int i :: .ref r :: st) G = (mc_setA G 0 r i x).bind (fun G' => mc_ev X 170 283 ls st G')) ∧
  (∀ (v0 v1 v2 v3 v4 v5 v6 v7 v8 v9 : Value) (x : Int32) (st : List Value) (G : mc_H), mc_ev X 170 283 [v0, v1, v2, v3, v4, v5, v6, v7, v8, v9, .int x] st G = mc_ev X 170 286 [v0, v1, v2, v3, v4, v5, v6, v7, v8, v9, .int (x + 1)] st G) ∧
  (∀ (ls st : List Value) (G : mc_H), mc_ev X 170 286 ls st G = mc_ev X 170 247 ls st G) ∧
  (∀ (v0 v1 v2 v3 v4 v5 v6 v8 v9 v10 : Value) (x : Int32) (st : List Value) (G : mc_H), mc_ev X 170 289 [v0, v1, v2, v3, v4, v5, v6, .int x, v8, v9, v10] st G = mc_ev X 170 291 [v0, v1, v2, v3, v4, v5, v6, .int x, v8, v9, v10] (.int x :: st) G) ∧
  (∀ (v : Int32) (ls : List Value) (G : mc_H), mc_ev X 170 291 ls [.int v] G = some (some (.int v), G)) := ⟨fun v1 v2 v3 v4 v5 v6 v7 v8 v9 v10 x st G => ev_aload_n rfl rfl,
  fun ls st G => ev_iconst rfl rfl,
  fun v r ls st G => ev_putfield rfl,
  fun v1 v2 v3 v4 v5 v6 v7 v8 v9 v10 x st G => ev_aload_n rfl rfl,
  fun ls st G => ev_iconst rfl rfl,
  fun v r ls st G => ev_putfield rfl,
  fun v0 v2 v3 v4 v5 v6 v7 v8 v9 v10 x st G => ev_iload_n rfl rfl,
  fun ls st G => ev_iconst rfl rfl,
  fun ls st G => ev_iconst rfl rfl,
  fun a0 a1 a2 ls st G hr => ev_stat (As := [.int a0, .int a1, .int a2]) rfl (by decide) rfl rfl rfl rfl hr,
  fun x ls st G => ev_br rfl rfl,
  fun v0 v1 v2 v3 v5 v6 v7 v8 v9 v10 x st G => ev_iload rfl rfl,
  fun ls st G => ev_iconst rfl rfl,
  fun ls st G => ev_iconst rfl rfl,
  fun a0 a1 a2 ls st G hr => ev_stat (As := [.int a0, .int a1, .int a2]) rfl (by decide) rfl rfl rfl rfl hr,
  fun x ls st G => ev_br rfl rfl,
  fun v1 v2 v3 v4 v5 v6 v7 v8 v9 v10 x st G => ev_aload_n rfl rfl,
  fun ls st G => ev_iconst rfl rfl,
  fun a0 r ls st G hr hG => ev_virt (As := [.int a0]) rfl rfl rfl rfl rfl rfl hr hG,
  fun v ls G => ev_ireturn rfl rfl,
  fun v1 v2 v3 v4 v5 v6 v7 v8 v9 v10 x st G => ev_aload_n rfl rfl,
  fun r ls st G => ev_getfield rfl,
  fun v0 v2 v3 v4 v5 v6 v7 v8 v9 v10 x st G => ev_iload_n rfl rfl,
  fun i r ls st G => ev_baload rfl,
  fun x ls st G => ev_br rfl rfl,
  fun v1 v2 v3 v4 v5 v6 v7 v8 v9 v10 x st G => ev_aload_n rfl rfl,
  fun r ls st G => ev_getfield rfl,
  fun v0 v1 v2 v3 v5 v6 v7 v8 v9 v10 x st G => ev_iload rfl rfl,
  fun i r ls st G => ev_baload rfl,
  fun x ls st G => ev_br rfl rfl,
  fun v1 v2 v3 v4 v5 v6 v7 v8 v9 v10 x st G => ev_aload_n rfl rfl,
  fun ls st G => ev_bipush rfl rfl,
  fun a0 r ls st G hr hG => ev_virt (As := [.int a0]) rfl rfl rfl rfl rfl rfl hr hG,
  fun v ls G => ev_ireturn rfl rfl,
  fun v1 v2 v3 v4 v5 v6 v7 v8 v9 v10 x st G => ev_aload_n rfl rfl,
  fun r ls st G => ev_getfield rfl,
  fun v0 v2 v3 v4 v5 v6 v7 v8 v9 v10 x st G => ev_iload_n rfl rfl,
  fun i r ls st G => ev_iaload rfl,
  fun v1 v2 v3 v4 v5 v6 v7 v8 v9 v10 x st G => ev_aload_n rfl rfl,
  fun r ls st G => ev_getfield rfl,
  fun v0 v1 v2 v3 v5 v6 v7 v8 v9 v10 x st G => ev_iload rfl rfl,
  fun i r ls st G => ev_iaload rfl,
  fun x y ls st G => ev_br rfl rfl,
  fun v1 v2 v3 v4 v5 v6 v7 v8 v9 v10 x st G => ev_aload_n rfl rfl,
  fun ls st G => ev_bipush rfl rfl,
  fun a0 r ls st G hr hG => ev_virt (As := [.int a0]) rfl rfl rfl rfl rfl rfl hr hG,
  fun v ls G => ev_ireturn rfl rfl,
  fun v0 v1 v3 v4 v5 v6 v7 v8 v9 v10 x st G => ev_iload_n rfl rfl,
  fun ls st G => ev_iconst rfl rfl,
  fun v1 v2 v3 v4 v5 v6 v7 v8 v9 v10 x st G => ev_aload_n rfl rfl,
  fun r ls st G => ev_getfield rfl,
  fun v0 v2 v3 v4 v5 v6 v7 v8 v9 v10 x st G => ev_iload_n rfl rfl,
  fun i r ls st G => ev_iaload rfl,
  fun ls st G => ev_iconst rfl rfl,
  fun x y ls st G => ev_isub rfl,
  fun a0 a1 a2 ls st G hr => ev_stat (As := [.int a0, .int a1, .int a2]) rfl (by decide) rfl rfl rfl rfl hr,
  fun x ls st G => ev_br rfl rfl,
  fun v0 v1 v2 v3 v4 v6 v7 v8 v9 v10 x st G => ev_iload rfl rfl,
  fun ls st G => ev_iconst rfl rfl,
  fun v1 v2 v3 v4 v5 v6 v7 v8 v9 v10 x st G => ev_aload_n rfl rfl,
  fun r ls st G => ev_getfield rfl,
  fun v0 v1 v2 v3 v5 v6 v7 v8 v9 v10 x st G => ev_iload rfl rfl,
  fun i r ls st G => ev_iaload rfl,
  fun ls st G => ev_iconst rfl rfl,
  fun x y ls st G => ev_isub rfl,
  fun a0 a1 a2 ls st G hr => ev_stat (As := [.int a0, .int a1, .int a2]) rfl (by decide) rfl rfl rfl rfl hr,
  fun x ls st G => ev_br rfl rfl,
  fun v1 v2 v3 v4 v5 v6 v7 v8 v9 v10 x st G => ev_aload_n rfl rfl,
  fun ls st G => ev_bipush rfl rfl,
  fun a0 r ls st G hr hG => ev_virt (As := [.int a0]) rfl rfl rfl rfl rfl rfl hr hG,
  fun v ls G => ev_ireturn rfl rfl,
  fun v1 v2 v3 v4 v5 v6 v7 v8 v9 v10 x st G => ev_aload_n rfl rfl,
  fun r ls st G => ev_getfield rfl,
  fun ls st G => ev_iconst rfl rfl,
  fun v0 v2 v3 v4 v5 v6 v7 v8 v9 v10 x st G => ev_iload_n rfl rfl,
  fun x y ls st G => ev_imul rfl,
  fun v0 v1 v3 v4 v5 v6 v7 v8 v9 v10 x st G => ev_iload_n rfl rfl,
  fun x y ls st G => ev_iadd rfl,
  fun i r ls st G => ev_iaload rfl,
  fun v0 v1 v2 v3 v4 v5 v6 v7 v8 v9 v10 x st G => ev_istore (X := X) (k := 170) (pc := 135) (ls := [v0, v1, v2, v3, v4, v5, v6, v7, v8, v9, v10]) (st := st) (G := G) (j := 8) (x := x) rfl (Nat.le_of_ble_eq_true rfl),
  fun v1 v2 v3 v4 v5 v6 v7 v8 v9 v10 x st G => ev_aload_n rfl rfl,
  fun r ls st G => ev_getfield rfl,
  fun ls st G => ev_iconst rfl rfl,
  fun v0 v1 v2 v3 v5 v6 v7 v8 v9 v10 x st G => ev_iload rfl rfl,
  fun x y ls st G => ev_imul rfl,
  fun v0 v1 v2 v3 v4 v6 v7 v8 v9 v10 x st G => ev_iload rfl rfl,
  fun x y ls st G => ev_iadd rfl,
  fun i r ls st G => ev_iaload rfl,
  fun v0 v1 v2 v3 v4 v5 v6 v7 v8 v9 v10 x st G => ev_istore (X := X) (k := 170) (pc := 149) (ls := [v0, v1, v2, v3, v4, v5, v6, v7, v8, v9, v10]) (st := st) (G := G) (j := 9) (x := x) rfl (Nat.le_of_ble_eq_true rfl),
  fun v0 v1 v2 v3 v4 v5 v6 v7 v9 v10 x st G => ev_iload rfl rfl,
  fun ls st G => ev_bipush rfl rfl,
  fun x y ls st G => ev_br rfl rfl,
  fun v0 v1 v2 v3 v4 v5 v6 v7 v8 v10 x st G => ev_iload rfl rfl,
  fun ls st G => ev_bipush rfl rfl,
  fun x y ls st G => ev_br rfl rfl,
  fun v1 v2 v3 v4 v5 v6 v7 v8 v9 v10 x st G => ev_aload_n rfl rfl,
  fun ls st G => ev_bipush rfl rfl,
  fun a0 r ls st G hr hG => ev_virt (As := [.int a0]) rfl rfl rfl rfl rfl rfl hr hG,
  fun v ls G => ev_ireturn rfl rfl,
  fun v0 v1 v2 v4 v5 v6 v7 v8 v9 v10 x st G => ev_iload_n rfl rfl,
  fun v0 v1 v2 v3 v4 v5 v6 v8 v9 v10 x st G => ev_iload rfl rfl,
  fun v0 v1 v2 v3 v4 v5 v6 v7 v9 v10 x st G => ev_iload rfl rfl,
  fun a0 a1 a2 ls st G hr => ev_stat (As := [.int a0, .int a1, .int a2]) rfl (by decide) rfl rfl rfl rfl hr,
  fun x ls st G => ev_br rfl rfl,
  fun v0 v1 v2 v3 v4 v5 v7 v8 v9 v10 x st G => ev_iload rfl rfl,
  fun v0 v1 v2 v3 v4 v5 v6 v8 v9 v10 x st G => ev_iload rfl rfl,
  fun v0 v1 v2 v3 v4 v5 v6 v7 v8 v10 x st G => ev_iload rfl rfl,
  fun a0 a1 a2 ls st G hr => ev_stat (As := [.int a0, .int a1, .int a2]) rfl (by decide) rfl rfl rfl rfl hr,
  fun x ls st G => ev_br rfl rfl,
  fun v1 v2 v3 v4 v5 v6 v7 v8 v9 v10 x st G => ev_aload_n rfl rfl,
  fun ls st G => ev_bipush rfl rfl,
  fun a0 r ls st G hr hG => ev_virt (As := [.int a0]) rfl rfl rfl rfl rfl rfl hr hG,
  fun v ls G => ev_ireturn rfl rfl,
  fun ls st G => ev_iconst rfl rfl,
  fun v0 v1 v2 v3 v4 v5 v6 v7 v8 v9 v10 x st G => ev_istore (X := X) (k := 170) (pc := 203) (ls := [v0, v1, v2, v3, v4, v5, v6, v7, v8, v9, v10]) (st := st) (G := G) (j := 10) (x := x) rfl (Nat.le_of_ble_eq_true rfl),
  fun v0 v1 v2 v3 v4 v5 v6 v8 v9 v10 x st G => ev_iload rfl rfl,
  fun x y ls st G => ev_br rfl rfl,
  fun v1 v2 v3 v4 v5 v6 v7 v8 v9 v10 x st G => ev_aload_n rfl rfl,
  fun r ls st G => ev_getfield rfl,
  fun v0 v1 v2 v3 v4 v5 v6 v7 v8 v9 x st G => ev_iload rfl rfl,
  fun v1 v2 v3 v4 v5 v6 v7 v8 v9 v10 x st G => ev_aload_n rfl rfl,
  fun r ls st G => ev_getfield rfl,
  fun ls st G => ev_bipush rfl rfl,
  fun v0 v2 v3 v4 v5 v6 v7 v8 v9 v10 x st G => ev_iload_n rfl rfl,
  fun x y ls st G => ev_imul rfl,
  fun ls st G => ev_bipush rfl rfl,
  fun v0 v1 v3 v4 v5 v6 v7 v8 v9 v10 x st G => ev_iload_n rfl rfl,
  fun x y ls st G => ev_imul rfl,
  fun x y ls st G => ev_iadd rfl,
  fun v0 v1 v2 v4 v5 v6 v7 v8 v9 v10 x st G => ev_iload_n rfl rfl,
  fun x y ls st G => ev_iadd rfl,
  fun v0 v1 v2 v3 v4 v5 v6 v7 v8 v9 x st G => ev_iload rfl rfl,
  fun x y ls st G => ev_iadd rfl,
  fun i r ls st G => ev_iaload rfl,
  fun x i r ls st G => ev_iastore rfl,
  fun v0 v1 v2 v3 v4 v5 v6 v7 v8 v9 x st G => ev_iinc (X := X) (k := 170) (pc := 238) (ls := [v0, v1, v2, v3, v4, v5, v6, v7, v8, v9, .int x]) (st := st) (G := G) (j := 10) (n := 1) (x := x) (v := 1) rfl rfl rfl,
  fun ls st G => ev_goto rfl rfl,
  fun ls st G => ev_iconst rfl rfl,
  fun v0 v1 v2 v3 v4 v5 v6 v7 v8 v9 v10 x st G => ev_istore (X := X) (k := 170) (pc := 245) (ls := [v0, v1, v2, v3, v4, v5, v6, v7, v8, v9, v10]) (st := st) (G := G) (j := 10) (x := x) rfl (Nat.le_of_ble_eq_true rfl),
  fun v0 v1 v2 v3 v4 v5 v6 v8 v9 v10 x st G => ev_iload rfl rfl,
  fun x y ls st G => ev_br rfl rfl,
  fun v1 v2 v3 v4 v5 v6 v7 v8 v9 v10 x st G => ev_aload_n rfl rfl,
  fun r ls st G => ev_getfield rfl,
  fun ls st G => ev_bipush rfl rfl,
  fun v0 v1 v2 v3 v5 v6 v7 v8 v9 v10 x st G => ev_iload rfl rfl,
  fun x y ls st G => ev_imul rfl,
  fun ls st G => ev_bipush rfl rfl,
  fun v0 v1 v2 v3 v4 v6 v7 v8 v9 v10 x st G => ev_iload rfl rfl,
  fun x y ls st G => ev_imul rfl,
  fun x y ls st G => ev_iadd rfl,
  fun v0 v1 v2 v3 v4 v5 v7 v8 v9 v10 x st G => ev_iload rfl rfl,
  fun x y ls st G => ev_iadd rfl,
  fun v0 v1 v2 v3 v4 v5 v6 v7 v8 v9 x st G => ev_iload rfl rfl,
  fun x y ls st G => ev_iadd rfl,
  fun v1 v2 v3 v4 v5 v6 v7 v8 v9 v10 x st G => ev_aload_n rfl rfl,
  fun r ls st G => ev_getfield rfl,
  fun v0 v1 v2 v3 v4 v5 v6 v7 v8 v9 x st G => ev_iload rfl rfl,
  fun i r ls st G => ev_iaload rfl,
  fun x i r ls st G => ev_iastore rfl,
  fun v0 v1 v2 v3 v4 v5 v6 v7 v8 v9 x st G => ev_iinc (X := X) (k := 170) (pc := 283) (ls := [v0, v1, v2, v3, v4, v5, v6, v7, v8, v9, .int x]) (st := st) (G := G) (j := 10) (n := 1) (x := x) (v := 1) rfl rfl rfl,
  fun ls st G => ev_goto rfl rfl,
  fun v0 v1 v2 v3 v4 v5 v6 v8 v9 v10 x st G => ev_iload rfl rfl,
  fun v ls G => ev_ireturn rfl rfl⟩
set_option maxRecDepth 100000 in
theorem h_171_128 {X : mc_X} : ∀ (v0 v1 v2 v3 v4 : Value) (x : Int32) (st : List Value) (G : mc_H), mc_ev X 171 128 [v0, v1, v2, v3, v4, .int x] st G = mc_ev X 171 130 [v0, v1, v2, v3, v4, .int x] (.int x :: st) G := fun v0 v1 v2 v3 v4 x st G => ev_iload rfl rfl
set_option maxRecDepth 100000 in
theorem h_171_205 {X : mc_X} : ∀ (v0 v1 v2 v3 v4 : Value) (x : Int32) (st : List Value) (G : mc_H), mc_ev X 171 205 [v0, v1, v2, v3, v4, .int x] st G = mc_ev X 171 207 [v0, v1, v2, v3, v4, .int x] (.int x :: st) G := fun v0 v1 v2 v3 v4 x st G => ev_iload rfl rfl
set_option maxRecDepth 100000 in
theorem e_171 {X : mc_X} : (∀ (v1 v2 v3 v4 v5 : Value) (x : Nat) (st : List Value) (G : mc_H), mc_ev X 171 0 [.ref x, v1, v2, v3, v4, v5] st G = mc_ev X 171 1 [.ref x, v1, v2, v3, v4, v5] (.ref x :: st) G) ∧
  (∀ (ls st : List Value) (G : mc_H), mc_ev X 171 1 ls st G = mc_ev X 171 2 ls (.int 0 :: st) G) ∧
  (∀ (v : Value) (r : Nat) (ls st : List Value) (G : mc_H), mc_ev X 171 2 ls (v :: .ref r :: st) G = (mc_setf G r 8 0 v).bind (fun G' => mc_ev X 171 5 ls st G')) ∧
  (∀ (v1 v2 v3 v4 v5 : Value) (x : Nat) (st : List Value) (G : mc_H), mc_ev X 171 5 [.ref x, v1, v2, v3, v4, v5] st G = mc_ev X 171 6 [.ref x, v1, v2, v3, v4, v5] (.ref x :: st) G) ∧
  (∀ (ls st : List Value) (G : mc_H), mc_ev X 171 6 ls st G = mc_ev X 171 7 ls (.int 0 :: st) G) ∧
  (∀ (v : Value) (r : Nat) (ls st : List Value) (G : mc_H), mc_ev X 171 7 ls (v :: .ref r :: st) G = (mc_setf G r 8 1 v).bind (fun G' => mc_ev X 171 10 ls st G')) ∧
  (∀ (v0 v2 v3 v4 v5 : Value) (x : Int32) (st : List Value) (G : mc_H), mc_ev X 171 10 [v0, .int x, v2, v3, v4, v5] st G = mc_ev X 171 11 [v0, .int x, v2, v3, v4, v5] (.int x :: st) G) ∧
  (∀ (ls st : List Value) (G : mc_H), mc_ev X 171 11 ls st G = mc_ev X 171 12 ls (.int 0 :: st) G) ∧
  (∀ (ls st : List Value) (G : mc_H), mc_ev X 171 12 ls st G = mc_ev X 171 13 ls (.int 3 :: st) G) ∧
  (∀ (a0 : Int32) (a1 : Int32) (a2 : Int32) (ls st : List Value) (G : mc_H), st.length ≤ 4 → mc_ev X 171 13 ls (.int a2 :: .int a1 :: .int a0 :: st) G = (mc_ev X 112 0 [.int a0, .int a1, .int a2] [] G).bind (fun q => mc_ev X 171 16 ls (q.1.toList ++ st) q.2)) ∧
  (∀ (x : Int32) (ls st : List Value) (G : mc_H), mc_ev X 171 16 ls (.int x :: st) G = if x = 0 then mc_ev X 171 43 ls st G else mc_ev X 171 19 ls st G) ∧
  (∀ (v0 v1 v2 v4 v5 : Value) (x : Int32) (st : List Value) (G : mc_H), mc_ev X 171 19 [v0, v1, v2, .int x, v4, v5] st G = mc_ev X 171 20 [v0, v1, v2, .int x, v4, v5] (.int x :: st) G) ∧
  (∀ (x : Int32) (ls st : List Value) (G : mc_H), mc_ev X 171 20 ls (.int x :: st) G = if x < 0 then mc_ev X 171 43 ls st G else mc_ev X 171 23 ls st G) ∧
  (∀ (v0 v1 v2 v3 v5 : Value) (x : Int32) (st : List Value) (G : mc_H), mc_ev X 171 23 [v0, v1, v2, v3, .int x, v5] st G = mc_ev X 171 25 [v0, v1, v2, v3, .int x, v5] (.int x :: st) G) ∧
  (∀ (x : Int32) (ls st : List Value) (G : mc_H), mc_ev X 171 25 ls (.int x :: st) G = if x < 0 then mc_ev X 171 43 ls st G else mc_ev X 171 28 ls st G) ∧
  (∀ (v0 v1 v2 v4 v5 : Value) (x : Int32) (st : List Value) (G : mc_H), mc_ev X 171 28 [v0, v1, v2, .int x, v4, v5] st G = mc_ev X 171 29 [v0, v1, v2, .int x, v4, v5] (.int x :: st) G) ∧
  (∀ (x : Int32) (ls st : List Value) (G : mc_H), mc_ev X 171 29 ls (.int x :: st) G = mc_ev X 171 30 ls (.long x.toInt64 :: st) G) ∧
  (∀ (v0 v1 v2 v3 v5 : Value) (x : Int32) (st : List Value) (G : mc_H), mc_ev X 171 30 [v0, v1, v2, v3, .int x, v5] st G = mc_ev X 171 32 [v0, v1, v2, v3, .int x, v5] (.int x :: st) G) ∧
  (∀ (x : Int32) (ls st : List Value) (G : mc_H), mc_ev X 171 32 ls (.int x :: st) G = mc_ev X 171 33 ls (.long x.toInt64 :: st) G) ∧
  (∀ (x y : Int64) (ls st : List Value) (G : mc_H), mc_ev X 171 33 ls (.long y :: .long x :: st) G = mc_ev X 171 34 ls (.long (x + y) :: st) G) ∧
  (∀ (v1 v2 v3 v4 v5 : Value) (x : Nat) (st : List Value) (G : mc_H), mc_ev X 171 34 [.ref x, v1, v2, v3, v4, v5] st G = mc_ev X 171 35 [.ref x, v1, v2, v3, v4, v5] (.ref x :: st) G) ∧
  (∀ (r : Nat) (ls st : List Value) (G : mc_H), st.length ≤ 4 → mc_cls G r = some 8 → mc_ev X 171 35 ls (.ref r :: st) G = (mc_ev X 115 0 [.ref r] [] G).bind (fun q => mc_ev X 171 38 ls (q.1.toList ++ st) q.2)) ∧
  (∀ (x : Int32) (ls st : List Value) (G : mc_H), mc_ev X 171 38 ls (.int x :: st) G = mc_ev X 171 39 ls (.long x.toInt64 :: st) G) ∧
  (∀ (x y : Int64) (ls st : List Value) (G : mc_H), mc_ev X 171 39 ls (.long y :: .long x :: st) G = mc_ev X 171 40 ls (.int (lg_cmp x y) :: st) G) ∧
  (∀ (x : Int32) (ls st : List Value) (G : mc_H), mc_ev X 171 40 ls (.int x :: st) G = if 0 < x then mc_ev X 171 43 ls st G else mc_ev X 171 49 ls st G) ∧
  (∀ (v1 v2 v3 v4 v5 : Value) (x : Nat) (st : List Value) (G : mc_H), mc_ev X 171 43 [.ref x, v1, v2, v3, v4, v5] st G = mc_ev X 171 44 [.ref x, v1, v2, v3, v4, v5] (.ref x :: st) G) ∧
  (∀ (ls st : List Value) (G : mc_H), mc_ev X 171 44 ls st G = mc_ev X 171 45 ls (.int (-1) :: st) G) ∧
  (∀ (a0 : Int32) (r : Nat) (ls st : List Value) (G : mc_H), st.length ≤ 4 → mc_cls G r = some 8 → mc_ev X 171 45 ls (.int a0 :: .ref r :: st) G = (mc_ev X 163 0 [.ref r, .int a0] [] G).bind (fun q => mc_ev X 171 48 ls (q.1.toList ++ st) q.2)) ∧
  (∀ (v : Int32) (ls : List Value) (G : mc_H), mc_ev X 171 48 ls [.int v] G = some (some (.int v), G)) ∧
  (∀ (v0 v1 v2 v3 v5 : Value) (x : Int32) (st : List Value) (G : mc_H), mc_ev X 171 49 [v0, v1, v2, v3, .int x, v5] st G = mc_ev X 171 51 [v0, v1, v2, v3, .int x, v5] (.int x :: st) G) ∧
  (∀ (x : Int32) (ls st : List Value) (G : mc_H), mc_ev X 171 51 ls (.int x :: st) G = if 0 < x then mc_ev X 171 54 ls st G else mc_ev X 171 70 ls st G) ∧
  (∀ (v1 v2 v3 v4 v5 : Value) (x : Nat) (st : List Value) (G : mc_H), mc_ev X 171 54 [.ref x, v1, v2, v3, v4, v5] st G = mc_ev X 171 55 [.ref x, v1, v2, v3, v4, v5] (.ref x :: st) G) ∧
  (∀ (r : Nat) (ls st : List Value) (G : mc_H), mc_ev X 171 55 ls (.ref r :: st) G = (mc_getf G r 8 12).bind (fun v => mc_ev X 171 58 ls (v :: st) G)) ∧
  (∀ (v0 v2 v3 v4 v5 : Value) (x : Int32) (st : List Value) (G : mc_H), mc_ev X 171 58 [v0, .int x, v2, v3, v4, v5] st G = mc_ev X 171 59 [v0, .int x, v2, v3, v4, v5] (.int x :: st) G) ∧
  (∀ (i : Int32) (r : Value) (ls st : List Value) (G : mc_H), mc_ev X 171 59 ls (.int i :: r :: st) G = (mc_getA X G 1 r i).bind (fun x => mc_ev X 171 60 ls (.int x :: st) G)) ∧
  (∀ (x : Int32) (ls st : List Value) (G : mc_H), mc_ev X 171 60 ls (.int x :: st) G = if x = 0 then mc_ev X 171 63 ls st G else mc_ev X 171 70 ls st G) ∧
  (∀ (v1 v2 v3 v4 v5 : Value) (x : Nat) (st : List Value) (G : mc_H), mc_ev X 171 63 [.ref x, v1, v2, v3, v4, v5] st G = mc_ev X 171 64 [.ref x, v1, v2, v3, v4, v5] (.ref x :: st) G) ∧
  (∀ (ls st : List Value) (G : mc_H), mc_ev X 171 64 ls st G = mc_ev X 171 66 ls (.int (-11) :: st) G) ∧
  (∀ (a0 : Int32) (r : Nat) (ls st : List Value) (G : mc_H), st.length ≤ 4 → mc_cls G r = some 8 → mc_ev X 171 66 ls (.int a0 :: .ref r :: st) G = (mc_ev X 163 0 [.ref r, .int a0] [] G).bind (fun q => mc_ev X 171 69 ls (q.1.toList ++ st) q.2)) ∧
  (∀ (v : Int32) (ls : List Value) (G : mc_H), mc_ev X 171 69 ls [.int v] G = some (some (.int v), G)) ∧
  (∀ (v0 v1 v2 v3 v5 : Value) (x : Int32) (st : List Value) (G : mc_H), mc_ev X 171 70 [v0, v1, v2, v3, .int x, v5] st G = mc_ev X 171 72 [v0, v1, v2, v3, .int x, v5] (.int x :: st) G) ∧
  (∀ (x : Int32) (ls st : List Value) (G : mc_H), mc_ev X 171 72 ls (.int x :: st) G = if 0 < x then mc_ev X 171 75 ls st G else mc_ev X 171 98 ls st G) ∧
  (∀ (v0 v1 v3 v4 v5 : Value) (x : Int32) (st : List Value) (G : mc_H), mc_ev X 171 75 [v0, v1, .int x, v3, v4, v5] st G = mc_ev X 171 76 [v0, v1, .int x, v3, v4, v5] (.int x :: st) G) ∧
  (∀ (ls st : List Value) (G : mc_H), mc_ev X 171 76 ls st G = mc_ev X 171 77 ls (.int 0 :: st) G) ∧
  (∀ (v1 v2 v3 v4 v5 : Value) (x : Nat) (st : List Value) (G : mc_H), mc_ev X 171 77 [.ref x, v1, v2, v3, v4, v5] st G = mc_ev X 171 78 [.ref x, v1, v2, v3, v4, v5] (.ref x :: st) G) ∧
  (∀ (r : Nat) (ls st : List Value) (G : mc_H), mc_ev X 171 78 ls (.ref r :: st) G = (mc_getf G r 8 14).bind (fun v => mc_ev X 171 81 ls (v :: st) G)) ∧
  (∀ (v0 v2 v3 v4 v5 : Value) (x : Int32) (st : List Value) (G : mc_H), mc_ev X 171 81 [v0, .int x, v2, v3, v4, v5] st G = mc_ev X 171 82 [v0, .int x, v2, v3, v4, v5] (.int x :: st) G) ∧
  (∀ (i : Int32) (r : Value) (ls st : List Value) (G : mc_H), mc_ev X 171 82 ls (.int i :: r :: st) G = (mc_getA X G 0 r i).bind (fun x => mc_ev X 171 83 ls (.int x :: st) G)) ∧
  (∀ (ls st : List Value) (G : mc_H), mc_ev X 171 83 ls st G = mc_ev X 171 84 ls (.int 1 :: st) G) ∧
  (∀ (x y : Int32) (ls st : List Value) (G : mc_H), mc_ev X 171 84 ls (.int y :: .int x :: st) G = mc_ev X 171 85 ls (.int (x - y) :: st) G) ∧
  (∀ (a0 : Int32) (a1 : Int32) (a2 : Int32) (ls st : List Value) (G : mc_H), st.length ≤ 4 → mc_ev X 171 85 ls (.int a2 :: .int a1 :: .int a0 :: st) G = (mc_ev X 112 0 [.int a0, .int a1, .int a2] [] G).bind (fun q => mc_ev X 171 88 ls (q.1.toList ++ st) q.2)) ∧
  (∀ (x : Int32) (ls st : List Value) (G : mc_H), mc_ev X 171 88 ls (.int x :: st) G = if x = 0 then mc_ev X 171 91 ls st G else mc_ev X 171 98 ls st G) ∧
  (∀ (v1 v2 v3 v4 v5 : Value) (x : Nat) (st : List Value) (G : mc_H), mc_ev X 171 91 [.ref x, v1, v2, v3, v4, v5] st G = mc_ev X 171 92 [.ref x, v1, v2, v3, v4, v5] (.ref x :: st) G) ∧
  (∀ (ls st : List Value) (G : mc_H), mc_ev X 171 92 ls st G = mc_ev X 171 94 ls (.int (-12) :: st) G) ∧
  (∀ (a0 : Int32) (r : Nat) (ls st : List Value) (G : mc_H), st.length ≤ 4 → mc_cls G r = some 8 → mc_ev X 171 94 ls (.int a0 :: .ref r :: st) G = (mc_ev X 163 0 [.ref r, .int a0] [] G).bind (fun q => mc_ev X 171 97 ls (q.1.toList ++ st) q.2)) ∧
  (∀ (v : Int32) (ls : List Value) (G : mc_H), mc_ev X 171 97 ls [.int v] G = some (some (.int v), G)) ∧
  (∀ (v0 v1 v2 v3 v5 : Value) (x : Int32) (st : List Value) (G : mc_H), mc_ev X 171 98 [v0, v1, v2, v3, .int x, v5] st G = mc_ev X 171 100 [v0, v1, v2, v3, .int x, v5] (.int x :: st) G) ∧
  (∀ (x : Int32) (ls st : List Value) (G : mc_H), mc_ev X 171 100 ls (.int x :: st) G = if 0 < x then mc_ev X 171 103 ls st G else mc_ev X 171 125 ls st G) ∧
  (∀ (v1 v2 v3 v4 v5 : Value) (x : Nat) (st : List Value) (G : mc_H), mc_ev X 171 103 [.ref x, v1, v2, v3, v4, v5] st G = mc_ev X 171 104 [.ref x, v1, v2, v3, v4, v5] (.ref x :: st) G) ∧
  (∀ (r : Nat) (ls st : List Value) (G : mc_H), mc_ev X 171 104 ls (.ref r :: st) G = (mc_getf G r 8 15).bind (fun v => mc_ev X 171 107 ls (v :: st) G)) ∧
  (∀ (ls st : List Value) (G : mc_H), mc_ev X 171 107 ls st G = mc_ev X 171 108 ls (.int 4 :: st) G) ∧
  (∀ (v0 v2 v3 v4 v5 : Value) (x : Int32) (st : List Value) (G : mc_H), mc_ev X 171 108 [v0, .int x, v2, v3, v4, v5] st G = mc_ev X 171 109 [v0, .int x, v2, v3, v4, v5] (.int x :: st) G) ∧
  (∀ (x y : Int32) (ls st : List Value) (G : mc_H), mc_ev X 171 109 ls (.int y :: .int x :: st) G = mc_ev X 171 110 ls (.int (x * y) :: st) G) ∧
  (∀ (v0 v1 v3 v4 v5 : Value) (x : Int32) (st : List Value) (G : mc_H), mc_ev X 171 110 [v0, v1, .int x, v3, v4, v5] st G = mc_ev X 171 111 [v0, v1, .int x, v3, v4, v5] (.int x :: st) G) ∧
  (∀ (x y : Int32) (ls st : List Value) (G : mc_H), mc_ev X 171 111 ls (.int y :: .int x :: st) G = mc_ev X 171 112 ls (.int (x + y) :: st) G) ∧
  (∀ (i : Int32) (r : Value) (ls st : List Value) (G : mc_H), mc_ev X 171 112 ls (.int i :: r :: st) G = (mc_getA X G 0 r i).bind (fun x => mc_ev X 171 113 ls (.int x :: st) G)) ∧
  (∀ (ls st : List Value) (G : mc_H), mc_ev X 171 113 ls st G = mc_ev X 171 115 ls (.int (-9) :: st) G) ∧
  (∀ (x y : Int32) (ls st : List Value) (G : mc_H), mc_ev X 171 115 ls (.int y :: .int x :: st) G = if x = y then mc_ev X 171 118 ls st G else mc_ev X 171 125 ls st G) ∧
  (∀ (v1 v2 v3 v4 v5 : Value) (x : Nat) (st : List Value) (G : mc_H), mc_ev X 171 118 [.ref x, v1, v2, v3, v4, v5] st G = mc_ev X 171 119 [.ref x, v1, v2, v3, v4, v5] (.ref x :: st) G) ∧
  (∀ (ls st : List Value) (G : mc_H), mc_ev X 171 119 ls st G = mc_ev X 171 121 ls (.int (-11) :: st) G) ∧
  (∀ (a0 : Int32) (r : Nat) (ls st : List Value) (G : mc_H), st.length ≤ 4 → mc_cls G r = some 8 → mc_ev X 171 121 ls (.int a0 :: .ref r :: st) G = (mc_ev X 163 0 [.ref r, .int a0] [] G).bind (fun q => mc_ev X 171 124 ls (q.1.toList ++ st) q.2)) ∧
  (∀ (v : Int32) (ls : List Value) (G : mc_H), mc_ev X 171 124 ls [.int v] G = some (some (.int v), G)) ∧
  (∀ (ls st : List Value) (G : mc_H), mc_ev X 171 125 ls st G = mc_ev X 171 126 ls (.int 0 :: st) G) ∧
  (∀ (v0 v1 v2 v3 v4 v5 : Value) (x : Int32) (st : List Value) (G : mc_H), mc_ev X 171 126 [v0, v1, v2, v3, v4, v5] (.int x :: st) G = mc_ev X 171 128 [v0, v1, v2, v3, v4, .int x] st G) ∧
  (∀ (v0 v1 v2 v3 v5 : Value) (x : Int32) (st : List Value) (G : mc_H), mc_ev X 171 130 [v0, v1, v2, v3, .int x, v5] st G = mc_ev X 171 132 [v0, v1, v2, v3, .int x, v5] (.int x :: st) G) ∧
  (∀ (x y : Int32) (ls st : List Value) (G : mc_H), mc_ev X 171 132 ls (.int y :: .int x :: st) G = if x < y then mc_ev X 171 135 ls st G else mc_ev X 171 198 ls st G) ∧
  (∀ (v0 v1 v2 v3 v4 : Value) (x : Int32) (st : List Value) (G : mc_H), mc_ev X 171 135 [v0, v1, v2, v3, v4, .int x] st G = mc_ev X 171 137 [v0, v1, v2, v3, v4, .int x] (.int x :: st) G) ∧
  (∀ (v1 v2 v3 v4 v5 : Value) (x : Nat) (st : List Value) (G : mc_H), mc_ev X 171 137 [.ref x, v1, v2, v3, v4, v5] st G = mc_ev X 171 138 [.ref x, v1, v2, v3, v4, v5] (.ref x :: st) G) ∧
  (∀ (r : Nat) (ls st : List Value) (G : mc_H), mc_ev X 171 138 ls (.ref r :: st) G = (mc_getf G r 8 15).bind (fun v => mc_ev X 171 141 ls (v :: st) G)) ∧
  (∀ (ls st : List Value) (G : mc_H), mc_ev X 171 141 ls st G = mc_ev X 171 142 ls (.int 4 :: st) G) ∧
  (∀ (v0 v2 v3 v4 v5 : Value) (x : Int32) (st : List Value) (G : mc_H), mc_ev X 171 142 [v0, .int x, v2, v3, v4, v5] st G = mc_ev X 171 143 [v0, .int x, v2, v3, v4, v5] (.int x :: st) G) ∧
  (∀ (x y : Int32) (ls st : List Value) (G : mc_H), mc_ev X 171 143 ls (.int y :: .int x :: st) G = mc_ev X 171 144 ls (.int (x * y) :: st) G) ∧
  (∀ (v0 v1 v3 v4 v5 : Value) (x : Int32) (st : List Value) (G : mc_H), mc_ev X 171 144 [v0, v1, .int x, v3, v4, v5] st G = mc_ev X 171 145 [v0, v1, .int x, v3, v4, v5] (.int x :: st) G) ∧
  (∀ (x y : Int32) (ls st : List Value) (G : mc_H), mc_ev X 171 145 ls (.int y :: .int x :: st) G = mc_ev X 171 146 ls (.int (x + y) :: st) G) ∧
  (∀ (i : Int32) (r : Value) (ls st : List Value) (G : mc_H), mc_ev X 171 146 ls (.int i :: r :: st) G = (mc_getA X G 0 r i).bind (fun x => mc_ev X 171 147 ls (.int x :: st) G)) ∧
  (∀ (x y : Int32) (ls st : List Value) (G : mc_H), mc_ev X 171 147 ls (.int y :: .int x :: st) G = if x < y then mc_ev X 171 157 ls st G else mc_ev X 171 150 ls st G) ∧
  (∀ (v1 v2 v3 v4 v5 : Value) (x : Nat) (st : List Value) (G : mc_H), mc_ev X 171 150 [.ref x, v1, v2, v3, v4, v5] st G = mc_ev X 171 151 [.ref x, v1, v2, v3, v4, v5] (.ref x :: st) G) ∧
  (∀ (ls st : List Value) (G : mc_H), mc_ev X 171 151 ls st G = mc_ev X 171 153 ls (.int (-12) :: st) G) ∧
  (∀ (a0 : Int32) (r : Nat) (ls st : List Value) (G : mc_H), st.length ≤ 4 → mc_cls G r = some 8 → mc_ev X 171 153 ls (.int a0 :: .ref r :: st) G = (mc_ev X 163 0 [.ref r, .int a0] [] G).bind (fun q => mc_ev X 171 156 ls (q.1.toList ++ st) q.2)) ∧
  (∀ (v : Int32) (ls : List Value) (G : mc_H), mc_ev X 171 156 ls [.int v] G = some (some (.int v), G)) ∧
  (∀ (v1 v2 v3 v4 v5 : Value) (x : Nat) (st : List Value) (G : mc_H), mc_ev X 171 157 [.ref x, v1, v2, v3, v4, v5] st G = mc_ev X 171 158 [.ref x, v1, v2, v3, v4, v5] (.ref x :: st) G) ∧
  (∀ (r : Nat) (ls st : List Value) (G : mc_H), mc_ev X 171 158 ls (.ref r :: st) G = (mc_getf G r 8 16).bind (fun v => mc_ev X 171 161 ls (v :: st) G)) ∧
  (∀ (ls st : List Value) (G : mc_H), mc_ev X 171 161 ls st G = mc_ev X 171 163 ls (.int 48 :: st) G) ∧
  (∀ (v0 v2 v3 v4 v5 : Value) (x : Int32) (st : List Value) (G : mc_H), mc_ev X 171 163 [v0, .int x, v2, v3, v4, v5] st G = mc_ev X 171 164 [v0, .int x, v2, v3, v4, v5] (.int x :: st) G) ∧
  (∀ (x y : Int32) (ls st : List Value) (G : mc_H), mc_ev X 171 164 ls (.int y :: .int x :: st) G = mc_ev X 171 165 ls (.int (x * y) :: st) G) ∧
  (∀ (ls st : List Value) (G : mc_H), mc_ev X 171 165 ls st G = mc_ev X 171 167 ls (.int 12 :: st) G) ∧
  (∀ (v0 v1 v3 v4 v5 : Value) (x : Int32) (st : List Value) (G : mc_H), mc_ev X 171 167 [v0, v1, .int x, v3, v4, v5] st G = mc_ev X 171 168 [v0, v1, .int x, v3, v4, v5] (.int x :: st) G) ∧
  (∀ (x y : Int32) (ls st : List Value) (G : mc_H), mc_ev X 171 168 ls (.int y :: .int x :: st) G = mc_ev X 171 169 ls (.int (x * y) :: st) G) ∧
  (∀ (x y : Int32) (ls st : List Value) (G : mc_H), mc_ev X 171 169 ls (.int y :: .int x :: st) G = mc_ev X 171 170 ls (.int (x + y) :: st) G) ∧
  (∀ (v0 v1 v2 v3 v4 : Value) (x : Int32) (st : List Value) (G : mc_H), mc_ev X 171 170 [v0, v1, v2, v3, v4, .int x] st G = mc_ev X 171 172 [v0, v1, v2, v3, v4, .int x] (.int x :: st) G) ∧
  (∀ (x y : Int32) (ls st : List Value) (G : mc_H), mc_ev X 171 172 ls (.int y :: .int x :: st) G = mc_ev X 171 173 ls (.int (x + y) :: st) G) ∧
  (∀ (i : Int32) (r : Value) (ls st : List Value) (G : mc_H), mc_ev X 171 173 ls (.int i :: r :: st) G = (mc_getA X G 0 r i).bind (fun x => mc_ev X 171 174 ls (.int x :: st) G)) ∧
  (∀ (ls st : List Value) (G : mc_H), mc_ev X 171 174 ls st G = mc_ev X 171 177 ls (.int (-1000) :: st) G) ∧
  (∀ (ls st : List Value) (G : mc_H), mc_ev X 171 177 ls st G = mc_ev X 171 180 ls (.int 1000 :: st) G) ∧
  (∀ (a0 : Int32) (a1 : Int32) (a2 : Int32) (ls st : List Value) (G : mc_H), st.length ≤ 4 → mc_ev X 171 180 ls (.int a2 :: .int a1 :: .int a0 :: st) G = (mc_ev X 112 0 [.int a0, .int a1, .int a2] [] G).bind (fun q => mc_ev X 171 183 ls (q.1.toList ++ st) q.2)) ∧
  (∀ (x : Int32) (ls st : List Value) (G : mc_H), mc_ev X 171 183 ls (.int x :: st) G = if x = 0 then mc_ev X 171 186 ls st G else mc_ev X 171 192 ls st G) ∧
  (∀ (v1 v2 v3 v4 v5 : Value) (x : Nat) (st : List Value) (G : mc_H), mc_ev X 171 186 [.ref x, v1, v2, v3, v4, v5] st G = mc_ev X 171 187 [.ref x, v1, v2, v3, v4, v5] (.ref x :: st) G) ∧
  (∀ (ls st : List Value) (G : mc_H), mc_ev X 171 187 ls st G = mc_ev X 171 188 ls (.int (-1) :: st) G) ∧
  (∀ (a0 : Int32) (r : Nat) (ls st : List Value) (G : mc_H), st.length ≤ 4 → mc_cls G r = some 8 → mc_ev X 171 188 ls (.int a0 :: .ref r :: st) G = (mc_ev X 163 0 [.ref r, .int a0] [] G).bind (fun q => mc_ev X 171 191 ls (q.1.toList ++ st) q.2)) ∧
  (∀ (v : Int32) (ls : List Value) (G : mc_H), mc_ev X 171 191 ls [.int v] G = some (some (.int v), G)) ∧
  (∀ (v0 v1 v2 v3 v4 : Value) (x : Int32) (st : List Value) (G : mc_H), mc_ev X 171 192 [v0, v1, v2, v3, v4, .int x] st G = mc_ev X 171 195 [v0, v1, v2, v3, v4, .int (x + 1)] st G) ∧
  (∀ (ls st : List Value) (G : mc_H), mc_ev X 171 195 ls st G = mc_ev X 171 128 ls st G) ∧
  (∀ (v1 v2 v3 v4 v5 : Value) (x : Nat) (st : List Value) (G : mc_H), mc_ev X 171 198 [.ref x, v1, v2, v3, v4, v5] st G = mc_ev X 171 199 [.ref x, v1, v2, v3, v4, v5] (.ref x :: st) G) ∧
  (∀ (r : Nat) (ls st : List Value) (G : mc_H), st.length ≤ 4 → mc_cls G r = some 8 → mc_ev X 171 199 ls (.ref r :: st) G = (mc_ev X 119 0 [.ref r, .null, .null] [] G).bind (fun q => mc_ev X 171 202 ls (q.1.toList ++ st) q.2)) ∧
  (∀ (ls st : List Value) (G : mc_H), mc_ev X 171 202 ls st G = mc_ev X 171 203 ls (.int 0 :: st) G) ∧
  (∀ (v0 v1 v2 v3 v4 v5 : Value) (x : Int32) (st : List Value) (G : mc_H), mc_ev X 171 203 [v0, v1, v2, v3, v4, v5] (.int x :: st) G = mc_ev X 171 205 [v0, v1, v2, v3, v4, .int x] st G) ∧
  (∀ (v0 v1 v2 v3 v5 : Value) (x : Int32) (st : List Value) (G : mc_H), mc_ev X 171 207 [v0, v1, v2, v3, .int x, v5] st G = mc_ev X 171 209 [v0, v1, v2, v3, .int x, v5] (.int x :: st) G) ∧
  (∀ (x y : Int32) (ls st : List Value) (G : mc_H), mc_ev X 171 209 ls (.int y :: .int x :: st) G = if x < y then mc_ev X 171 212 ls st G else mc_ev X 171 244 ls st G) ∧
  (∀ (v1 v2 v3 v4 v5 : Value) (x : Nat) (st : List Value) (G : mc_H), mc_ev X 171 212 [.ref x, v1, v2, v3, v4, v5] st G = mc_ev X 171 213 [.ref x, v1, v2, v3, v4, v5] (.ref x :: st) G) ∧
  (∀ (r : Nat) (ls st : List Value) (G : mc_H), mc_ev X 171 213 ls (.ref r :: st) G = (mc_getf G r 8 9).bind (fun v => mc_ev X 171 216 ls (v :: st) G)) ∧
  (∀ (v0 v1 v2 v4 v5 : Value) (x : Int32) (st : List Value) (G : mc_H), mc_ev X 171 216 [v0, v1, v2, .int x, v4, v5] st G = mc_ev X 171 217 [v0, v1, v2, .int x, v4, v5] (.int x :: st) G) ∧
  (∀ (v0 v1 v2 v3 v4 : Value) (x : Int32) (st : List Value) (G : mc_H), mc_ev X 171 217 [v0, v1, v2, v3, v4, .int x] st G = mc_ev X 171 219 [v0, v1, v2, v3, v4, .int x] (.int x :: st) G) ∧
  (∀ (x y : Int32) (ls st : List Value) (G : mc_H), mc_ev X 171 219 ls (.int y :: .int x :: st) G = mc_ev X 171 220 ls (.int (x + y) :: st) G) ∧
  (∀ (v1 v2 v3 v4 v5 : Value) (x : Nat) (st : List Value) (G : mc_H), mc_ev X 171 220 [.ref x, v1, v2, v3, v4, v5] st G = mc_ev X 171 221 [.ref x, v1, v2, v3, v4, v5] (.ref x :: st) G) ∧
  (∀ (r : Nat) (ls st : List Value) (G : mc_H), mc_ev X 171 221 ls (.ref r :: st) G = (mc_getf G r 8 16).bind (fun v => mc_ev X 171 224 ls (v :: st) G)) ∧
  (∀ (ls st : List Value) (G : mc_H), mc_ev X 171 224 ls st G = mc_ev X 171 226 ls (.int 48 :: st) G) ∧
  (∀ (v0 v2 v3 v4 v5 : Value) (x : Int32) (st : List Value) (G : mc_H), mc_ev X 171 226 [v0, .int x, v2, v3, v4, v5] st G = mc_ev X 171 227 [v0, .int x, v2, v3, v4, v5] (.int x :: st) G) ∧
  (∀ (x y : Int32) (ls st : List Value) (G : mc_H), mc_ev X 171 227 ls (.int y :: .int x :: st) G = mc_ev X 171 228 ls (.int (x * y) :: st) G) ∧
  (∀ (ls st : List Value) (G : mc_H), mc_ev X 171 228 ls st G = mc_ev X 171 230 ls (.int 12 :: st) G) ∧
  (∀ (v0 v1 v3 v4 v5 : Value) (x : Int32) (st : List Value) (G : mc_H), mc_ev X 171 230 [v0, v1, .int x, v3, v4, v5] st G = mc_ev X 171 231 [v0, v1, .int x, v3, v4, v5] (.int x :: st) G) ∧
  (∀ (x y : Int32) (ls st : List Value) (G : mc_H), mc_ev X 171 231 ls (.int y :: .int x :: st) G = mc_ev X 171 232 ls (.int (x * y) :: st) G) ∧
  (∀ (x y : Int32) (ls st : List Value) (G : mc_H), mc_ev X 171 232 ls (.int y :: .int x :: st) G = mc_ev X 171 233 ls (.int (x + y) :: st) G) ∧
  (∀ (v0 v1 v2 v3 v4 : Value) (x : Int32) (st : List Value) (G : mc_H), mc_ev X 171 233 [v0, v1, v2, v3, v4, .int x] st G = mc_ev X 171 235 [v0, v1, v2, v3, v4, .int x] (.int x :: st) G) ∧
  (∀ (x y : Int32) (ls st : List Value) (G : mc_H), mc_ev X 171 235 ls (.int y :: .int x :: st) G = mc_ev X 171 236 ls (.int (x + y) :: st) G) ∧
  (∀ (i : Int32) (r : Value) (ls st : List Value) (G : mc_H), mc_ev X 171 236 ls (.int i :: r :: st) G = (mc_getA X G 0 r i).bind (fun x => mc_ev X 171 237 ls (.int x :: st) G)) ∧
  (∀ (x i : Int32) (r : Nat) (ls st : List Value) (G : mc_H), mc_ev X 171 237 ls (.int x :: .int i :: .ref r :: st) G = (mc_setA G 0 r i x).bind (fun G' => mc_ev X 171 238 ls st G')) ∧
  (∀ (v0 v1 v2 v3 v4 : Value) (x : Int32) (st : List Value) (G : mc_H), mc_ev X 171 238 [v0, v1, v2, v3, v4, .int x] st G = mc_ev X 171 241 [v0, v1, v2, v3, v4, .int (x + 1)] st G) ∧
  (∀ (ls st : List Value) (G : mc_H), mc_ev X 171 241 ls st G = mc_ev X 171 205 ls st G) ∧
  (∀ (v0 v1 v2 v3 v5 : Value) (x : Int32) (st : List Value) (G : mc_H), mc_ev X 171 244 [v0, v1, v2, v3, .int x, v5] st G = mc_ev X 171 246 [v0, v1, v2, v3, .int x, v5] (.int x :: st) G) ∧
  (∀ (v : Int32) (ls : List Value) (G : mc_H), mc_ev X 171 246 ls [.int v] G = some (some (.int v), G)) := ⟨fun v1 v2 v3 v4 v5 x st G => ev_aload_n rfl rfl,
  fun ls st G => ev_iconst rfl rfl,
  fun v r ls st G => ev_putfield rfl,
  fun v1 v2 v3 v4 v5 x st G => ev_aload_n rfl rfl,
  fun ls st G => ev_iconst rfl rfl,
  fun v r ls st G => ev_putfield rfl,
  fun v0 v2 v3 v4 v5 x st G => ev_iload_n rfl rfl,
  fun ls st G => ev_iconst rfl rfl,
  fun ls st G => ev_iconst rfl rfl,
  fun a0 a1 a2 ls st G hr => ev_stat (As := [.int a0, .int a1, .int a2]) rfl (by decide) rfl rfl rfl rfl hr,
  fun x ls st G => ev_br rfl rfl,
  fun v0 v1 v2 v4 v5 x st G => ev_iload_n rfl rfl,
  fun x ls st G => ev_br rfl rfl,
  fun v0 v1 v2 v3 v5 x st G => ev_iload rfl rfl,
  fun x ls st G => ev_br rfl rfl,
  fun v0 v1 v2 v4 v5 x st G => ev_iload_n rfl rfl,
  fun x ls st G => ev_i2l rfl,
  fun v0 v1 v2 v3 v5 x st G => ev_iload rfl rfl,
  fun x ls st G => ev_i2l rfl,
  fun x y ls st G => ev_ladd rfl,
  fun v1 v2 v3 v4 v5 x st G => ev_aload_n rfl rfl,
  fun r ls st G hr hG => ev_virt (As := []) rfl rfl rfl rfl rfl rfl hr hG,
  fun x ls st G => ev_i2l rfl,
  fun x y ls st G => ev_lcmp rfl,
  fun x ls st G => ev_br rfl rfl,
  fun v1 v2 v3 v4 v5 x st G => ev_aload_n rfl rfl,
  fun ls st G => ev_iconst rfl rfl,
  fun a0 r ls st G hr hG => ev_virt (As := [.int a0]) rfl rfl rfl rfl rfl rfl hr hG,
  fun v ls G => ev_ireturn rfl rfl,
  fun v0 v1 v2 v3 v5 x st G => ev_iload rfl rfl,
  fun x ls st G => ev_br rfl rfl,
  fun v1 v2 v3 v4 v5 x st G => ev_aload_n rfl rfl,
  fun r ls st G => ev_getfield rfl,
  fun v0 v2 v3 v4 v5 x st G => ev_iload_n rfl rfl,
  fun i r ls st G => ev_baload rfl,
  fun x ls st G => ev_br rfl rfl,
  fun v1 v2 v3 v4 v5 x st G => ev_aload_n rfl rfl,
  fun ls st G => ev_bipush rfl rfl,
  fun a0 r ls st G hr hG => ev_virt (As := [.int a0]) rfl rfl rfl rfl rfl rfl hr hG,
  fun v ls G => ev_ireturn rfl rfl,
  fun v0 v1 v2 v3 v5 x st G => ev_iload rfl rfl,
  fun x ls st G => ev_br rfl rfl,
  fun v0 v1 v3 v4 v5 x st G => ev_iload_n rfl rfl,
  fun ls st G => ev_iconst rfl rfl,
  fun v1 v2 v3 v4 v5 x st G => ev_aload_n rfl rfl,
  fun r ls st G => ev_getfield rfl,
  fun v0 v2 v3 v4 v5 x st G => ev_iload_n rfl rfl,
  fun i r ls st G => ev_iaload rfl,
  fun ls st G => ev_iconst rfl rfl,
  fun x y ls st G => ev_isub rfl,
  fun a0 a1 a2 ls st G hr => ev_stat (As := [.int a0, .int a1, .int a2]) rfl (by decide) rfl rfl rfl rfl hr,
  fun x ls st G => ev_br rfl rfl,
  fun v1 v2 v3 v4 v5 x st G => ev_aload_n rfl rfl,
  fun ls st G => ev_bipush rfl rfl,
  fun a0 r ls st G hr hG => ev_virt (As := [.int a0]) rfl rfl rfl rfl rfl rfl hr hG,
  fun v ls G => ev_ireturn rfl rfl,
  fun v0 v1 v2 v3 v5 x st G => ev_iload rfl rfl,
  fun x ls st G => ev_br rfl rfl,
  fun v1 v2 v3 v4 v5 x st G => ev_aload_n rfl rfl,
  fun r ls st G => ev_getfield rfl,
  fun ls st G => ev_iconst rfl rfl,
  fun v0 v2 v3 v4 v5 x st G => ev_iload_n rfl rfl,
  fun x y ls st G => ev_imul rfl,
  fun v0 v1 v3 v4 v5 x st G => ev_iload_n rfl rfl,
  fun x y ls st G => ev_iadd rfl,
  fun i r ls st G => ev_iaload rfl,
  fun ls st G => ev_bipush rfl rfl,
  fun x y ls st G => ev_br rfl rfl,
  fun v1 v2 v3 v4 v5 x st G => ev_aload_n rfl rfl,
  fun ls st G => ev_bipush rfl rfl,
  fun a0 r ls st G hr hG => ev_virt (As := [.int a0]) rfl rfl rfl rfl rfl rfl hr hG,
  fun v ls G => ev_ireturn rfl rfl,
  fun ls st G => ev_iconst rfl rfl,
  fun v0 v1 v2 v3 v4 v5 x st G => ev_istore (X := X) (k := 171) (pc := 126) (ls := [v0, v1, v2, v3, v4, v5]) (st := st) (G := G) (j := 5) (x := x) rfl (Nat.le_of_ble_eq_true rfl),
  fun v0 v1 v2 v3 v5 x st G => ev_iload rfl rfl,
  fun x y ls st G => ev_br rfl rfl,
  fun v0 v1 v2 v3 v4 x st G => ev_iload rfl rfl,
  fun v1 v2 v3 v4 v5 x st G => ev_aload_n rfl rfl,
  fun r ls st G => ev_getfield rfl,
  fun ls st G => ev_iconst rfl rfl,
  fun v0 v2 v3 v4 v5 x st G => ev_iload_n rfl rfl,
  fun x y ls st G => ev_imul rfl,
  fun v0 v1 v3 v4 v5 x st G => ev_iload_n rfl rfl,
  fun x y ls st G => ev_iadd rfl,
  fun i r ls st G => ev_iaload rfl,
  fun x y ls st G => ev_br rfl rfl,
  fun v1 v2 v3 v4 v5 x st G => ev_aload_n rfl rfl,
  fun ls st G => ev_bipush rfl rfl,
  fun a0 r ls st G hr hG => ev_virt (As := [.int a0]) rfl rfl rfl rfl rfl rfl hr hG,
  fun v ls G => ev_ireturn rfl rfl,
  fun v1 v2 v3 v4 v5 x st G => ev_aload_n rfl rfl,
  fun r ls st G => ev_getfield rfl,
  fun ls st G => ev_bipush rfl rfl,
  fun v0 v2 v3 v4 v5 x st G => ev_iload_n rfl rfl,
  fun x y ls st G => ev_imul rfl,
  fun ls st G => ev_bipush rfl rfl,
  fun v0 v1 v3 v4 v5 x st G => ev_iload_n rfl rfl,
  fun x y ls st G => ev_imul rfl,
  fun x y ls st G => ev_iadd rfl,
  fun v0 v1 v2 v3 v4 x st G => ev_iload rfl rfl,
  fun x y ls st G => ev_iadd rfl,
  fun i r ls st G => ev_iaload rfl,
  fun ls st G => ev_sipush rfl rfl,
  fun ls st G => ev_sipush rfl rfl,
  fun a0 a1 a2 ls st G hr => ev_stat (As := [.int a0, .int a1, .int a2]) rfl (by decide) rfl rfl rfl rfl hr,
  fun x ls st G => ev_br rfl rfl,
  fun v1 v2 v3 v4 v5 x st G => ev_aload_n rfl rfl,
  fun ls st G => ev_iconst rfl rfl,
  fun a0 r ls st G hr hG => ev_virt (As := [.int a0]) rfl rfl rfl rfl rfl rfl hr hG,
  fun v ls G => ev_ireturn rfl rfl,
  fun v0 v1 v2 v3 v4 x st G => ev_iinc (X := X) (k := 171) (pc := 192) (ls := [v0, v1, v2, v3, v4, .int x]) (st := st) (G := G) (j := 5) (n := 1) (x := x) (v := 1) rfl rfl rfl,
  fun ls st G => ev_goto rfl rfl,
  fun v1 v2 v3 v4 v5 x st G => ev_aload_n rfl rfl,
  fun r ls st G hr hG => ev_virt (As := []) rfl rfl rfl rfl rfl rfl hr hG,
  fun ls st G => ev_iconst rfl rfl,
  fun v0 v1 v2 v3 v4 v5 x st G => ev_istore (X := X) (k := 171) (pc := 203) (ls := [v0, v1, v2, v3, v4, v5]) (st := st) (G := G) (j := 5) (x := x) rfl (Nat.le_of_ble_eq_true rfl),
  fun v0 v1 v2 v3 v5 x st G => ev_iload rfl rfl,
  fun x y ls st G => ev_br rfl rfl,
  fun v1 v2 v3 v4 v5 x st G => ev_aload_n rfl rfl,
  fun r ls st G => ev_getfield rfl,
  fun v0 v1 v2 v4 v5 x st G => ev_iload_n rfl rfl,
  fun v0 v1 v2 v3 v4 x st G => ev_iload rfl rfl,
  fun x y ls st G => ev_iadd rfl,
  fun v1 v2 v3 v4 v5 x st G => ev_aload_n rfl rfl,
  fun r ls st G => ev_getfield rfl,
  fun ls st G => ev_bipush rfl rfl,
  fun v0 v2 v3 v4 v5 x st G => ev_iload_n rfl rfl,
  fun x y ls st G => ev_imul rfl,
  fun ls st G => ev_bipush rfl rfl,
  fun v0 v1 v3 v4 v5 x st G => ev_iload_n rfl rfl,
  fun x y ls st G => ev_imul rfl,
  fun x y ls st G => ev_iadd rfl,
  fun v0 v1 v2 v3 v4 x st G => ev_iload rfl rfl,
  fun x y ls st G => ev_iadd rfl,
  fun i r ls st G => ev_iaload rfl,
  fun x i r ls st G => ev_iastore rfl,
  fun v0 v1 v2 v3 v4 x st G => ev_iinc (X := X) (k := 171) (pc := 238) (ls := [v0, v1, v2, v3, v4, .int x]) (st := st) (G := G) (j := 5) (n := 1) (x := x) (v := 1) rfl rfl rfl,
  fun ls st G => ev_goto rfl rfl,
  fun v0 v1 v2 v3 v5 x st G => ev_iload rfl rfl,
  fun v ls G => ev_ireturn rfl rfl⟩
set_option maxRecDepth 100000 in
theorem h_172_9 {X : mc_X} : ∀ (v0 v1 v2 v4 : Value) (x : Int32) (st : List Value) (G : mc_H), mc_ev X 172 9 [v0, v1, v2, .int x, v4] st G = mc_ev X 172 10 [v0, v1, v2, .int x, v4] (.int x :: st) G := fun v0 v1 v2 v4 x st G => ev_iload_n rfl rfl
set_option maxRecDepth 100000 in
theorem h_172_44 {X : mc_X} : ∀ (v0 v1 v2 v3 : Value) (x : Int32) (st : List Value) (G : mc_H), mc_ev X 172 44 [v0, v1, v2, v3, .int x] st G = mc_ev X 172 46 [v0, v1, v2, v3, .int x] (.int x :: st) G := fun v0 v1 v2 v3 x st G => ev_iload rfl rfl
set_option maxRecDepth 100000 in
theorem e_172 {X : mc_X} : (∀ (v1 v2 v3 v4 : Value) (x : Nat) (st : List Value) (G : mc_H), mc_ev X 172 0 [.ref x, v1, v2, v3, v4] st G = mc_ev X 172 1 [.ref x, v1, v2, v3, v4] (.ref x :: st) G) ∧
  (∀ (ls st : List Value) (G : mc_H), mc_ev X 172 1 ls st G = mc_ev X 172 2 ls (.int 0 :: st) G) ∧
  (∀ (v : Value) (r : Nat) (ls st : List Value) (G : mc_H), mc_ev X 172 2 ls (v :: .ref r :: st) G = (mc_setf G r 8 0 v).bind (fun G' => mc_ev X 172 5 ls st G')) ∧
  (∀ (ls st : List Value) (G : mc_H), mc_ev X 172 5 ls st G = mc_ev X 172 6 ls (.int 0 :: st) G) ∧
  (∀ (v0 v1 v2 v3 v4 : Value) (x : Int32) (st : List Value) (G : mc_H), mc_ev X 172 6 [v0, v1, v2, v3, v4] (.int x :: st) G = mc_ev X 172 7 [v0, v1, .int x, v3, v4] st G) ∧
  (∀ (ls st : List Value) (G : mc_H), mc_ev X 172 7 ls st G = mc_ev X 172 8 ls (.int 0 :: st) G) ∧
  (∀ (v0 v1 v2 v3 v4 : Value) (x : Int32) (st : List Value) (G : mc_H), mc_ev X 172 8 [v0, v1, v2, v3, v4] (.int x :: st) G = mc_ev X 172 9 [v0, v1, v2, .int x, v4] st G) ∧
  (∀ (v1 v2 v3 v4 : Value) (x : Nat) (st : List Value) (G : mc_H), mc_ev X 172 10 [.ref x, v1, v2, v3, v4] st G = mc_ev X 172 11 [.ref x, v1, v2, v3, v4] (.ref x :: st) G) ∧
  (∀ (r : Nat) (ls st : List Value) (G : mc_H), st.length ≤ 4 → mc_cls G r = some 8 → mc_ev X 172 11 ls (.ref r :: st) G = (mc_ev X 113 0 [.ref r] [] G).bind (fun q => mc_ev X 172 14 ls (q.1.toList ++ st) q.2)) ∧
  (∀ (x y : Int32) (ls st : List Value) (G : mc_H), mc_ev X 172 14 ls (.int y :: .int x :: st) G = if x < y then mc_ev X 172 17 ls st G else mc_ev X 172 39 ls st G) ∧
  (∀ (v0 v1 v3 v4 : Value) (x : Int32) (st : List Value) (G : mc_H), mc_ev X 172 17 [v0, v1, .int x, v3, v4] st G = mc_ev X 172 18 [v0, v1, .int x, v3, v4] (.int x :: st) G) ∧
  (∀ (v1 v2 v3 v4 : Value) (x : Nat) (st : List Value) (G : mc_H), mc_ev X 172 18 [.ref x, v1, v2, v3, v4] st G = mc_ev X 172 19 [.ref x, v1, v2, v3, v4] (.ref x :: st) G) ∧
  (∀ (v0 v1 v2 v4 : Value) (x : Int32) (st : List Value) (G : mc_H), mc_ev X 172 19 [v0, v1, v2, .int x, v4] st G = mc_ev X 172 20 [v0, v1, v2, .int x, v4] (.int x :: st) G) ∧
  (∀ (a0 : Int32) (r : Nat) (ls st : List Value) (G : mc_H), st.length ≤ 4 → mc_cls G r = some 8 → mc_ev X 172 20 ls (.int a0 :: .ref r :: st) G = (mc_ev X 120 0 [.ref r, .int a0] [] G).bind (fun q => mc_ev X 172 23 ls (q.1.toList ++ st) q.2)) ∧
  (∀ (x : Int32) (ls st : List Value) (G : mc_H), mc_ev X 172 23 ls (.int x :: st) G = if x = 0 then mc_ev X 172 30 ls st G else mc_ev X 172 26 ls st G) ∧
  (∀ (ls st : List Value) (G : mc_H), mc_ev X 172 26 ls st G = mc_ev X 172 27 ls (.int 1 :: st) G) ∧
  (∀ (ls st : List Value) (G : mc_H), mc_ev X 172 27 ls st G = mc_ev X 172 31 ls st G) ∧
  (∀ (ls st : List Value) (G : mc_H), mc_ev X 172 30 ls st G = mc_ev X 172 31 ls (.int 0 :: st) G) ∧
  (∀ (x y : Int32) (ls st : List Value) (G : mc_H), mc_ev X 172 31 ls (.int y :: .int x :: st) G = mc_ev X 172 32 ls (.int (x + y) :: st) G) ∧
  (∀ (v0 v1 v2 v3 v4 : Value) (x : Int32) (st : List Value) (G : mc_H), mc_ev X 172 32 [v0, v1, v2, v3, v4] (.int x :: st) G = mc_ev X 172 33 [v0, v1, .int x, v3, v4] st G) ∧
  (∀ (v0 v1 v2 v4 : Value) (x : Int32) (st : List Value) (G : mc_H), mc_ev X 172 33 [v0, v1, v2, .int x, v4] st G = mc_ev X 172 36 [v0, v1, v2, .int (x + 1), v4] st G) ∧
  (∀ (ls st : List Value) (G : mc_H), mc_ev X 172 36 ls st G = mc_ev X 172 9 ls st G) ∧
  (∀ (ls st : List Value) (G : mc_H), mc_ev X 172 39 ls st G = mc_ev X 172 40 ls (.int 0 :: st) G) ∧
  (∀ (v0 v1 v2 v3 v4 : Value) (x : Int32) (st : List Value) (G : mc_H), mc_ev X 172 40 [v0, v1, v2, v3, v4] (.int x :: st) G = mc_ev X 172 41 [v0, v1, v2, .int x, v4] st G) ∧
  (∀ (ls st : List Value) (G : mc_H), mc_ev X 172 41 ls st G = mc_ev X 172 42 ls (.int 0 :: st) G) ∧
  (∀ (v0 v1 v2 v3 v4 : Value) (x : Int32) (st : List Value) (G : mc_H), mc_ev X 172 42 [v0, v1, v2, v3, v4] (.int x :: st) G = mc_ev X 172 44 [v0, v1, v2, v3, .int x] st G) ∧
  (∀ (v1 v2 v3 v4 : Value) (x : Nat) (st : List Value) (G : mc_H), mc_ev X 172 46 [.ref x, v1, v2, v3, v4] st G = mc_ev X 172 47 [.ref x, v1, v2, v3, v4] (.ref x :: st) G) ∧
  (∀ (r : Nat) (ls st : List Value) (G : mc_H), st.length ≤ 4 → mc_cls G r = some 8 → mc_ev X 172 47 ls (.ref r :: st) G = (mc_ev X 116 0 [.ref r] [] G).bind (fun q => mc_ev X 172 50 ls (q.1.toList ++ st) q.2)) ∧
  (∀ (x y : Int32) (ls st : List Value) (G : mc_H), mc_ev X 172 50 ls (.int y :: .int x :: st) G = if x < y then mc_ev X 172 53 ls st G else mc_ev X 172 76 ls st G) ∧
  (∀ (v0 v1 v2 v4 : Value) (x : Int32) (st : List Value) (G : mc_H), mc_ev X 172 53 [v0, v1, v2, .int x, v4] st G = mc_ev X 172 54 [v0, v1, v2, .int x, v4] (.int x :: st) G) ∧
  (∀ (v1 v2 v3 v4 : Value) (x : Nat) (st : List Value) (G : mc_H), mc_ev X 172 54 [.ref x, v1, v2, v3, v4] st G = mc_ev X 172 55 [.ref x, v1, v2, v3, v4] (.ref x :: st) G) ∧
  (∀ (v0 v1 v2 v3 : Value) (x : Int32) (st : List Value) (G : mc_H), mc_ev X 172 55 [v0, v1, v2, v3, .int x] st G = mc_ev X 172 57 [v0, v1, v2, v3, .int x] (.int x :: st) G) ∧
  (∀ (a0 : Int32) (r : Nat) (ls st : List Value) (G : mc_H), st.length ≤ 4 → mc_cls G r = some 8 → mc_ev X 172 57 ls (.int a0 :: .ref r :: st) G = (mc_ev X 148 0 [.ref r, .int a0, .null, .null] [] G).bind (fun q => mc_ev X 172 60 ls (q.1.toList ++ st) q.2)) ∧
  (∀ (x : Int32) (ls st : List Value) (G : mc_H), mc_ev X 172 60 ls (.int x :: st) G = if x = 0 then mc_ev X 172 67 ls st G else mc_ev X 172 63 ls st G) ∧
  (∀ (ls st : List Value) (G : mc_H), mc_ev X 172 63 ls st G = mc_ev X 172 64 ls (.int 1 :: st) G) ∧
  (∀ (ls st : List Value) (G : mc_H), mc_ev X 172 64 ls st G = mc_ev X 172 68 ls st G) ∧
  (∀ (ls st : List Value) (G : mc_H), mc_ev X 172 67 ls st G = mc_ev X 172 68 ls (.int 0 :: st) G) ∧
  (∀ (x y : Int32) (ls st : List Value) (G : mc_H), mc_ev X 172 68 ls (.int y :: .int x :: st) G = mc_ev X 172 69 ls (.int (x + y) :: st) G) ∧
  (∀ (v0 v1 v2 v3 v4 : Value) (x : Int32) (st : List Value) (G : mc_H), mc_ev X 172 69 [v0, v1, v2, v3, v4] (.int x :: st) G = mc_ev X 172 70 [v0, v1, v2, .int x, v4] st G) ∧
  (∀ (v0 v1 v2 v3 : Value) (x : Int32) (st : List Value) (G : mc_H), mc_ev X 172 70 [v0, v1, v2, v3, .int x] st G = mc_ev X 172 73 [v0, v1, v2, v3, .int (x + 1)] st G) ∧
  (∀ (ls st : List Value) (G : mc_H), mc_ev X 172 73 ls st G = mc_ev X 172 44 ls st G) ∧
  (∀ (v0 v2 v3 v4 : Value) (x : Int32) (st : List Value) (G : mc_H), mc_ev X 172 76 [v0, .int x, v2, v3, v4] st G = mc_ev X 172 77 [v0, .int x, v2, v3, v4] (.int x :: st) G) ∧
  (∀ (ls st : List Value) (G : mc_H), mc_ev X 172 77 ls (.int 0 :: st) G = mc_ev X 172 124 ls st G) ∧
  (∀ (ls st : List Value) (G : mc_H), mc_ev X 172 77 ls (.int 1 :: st) G = mc_ev X 172 129 ls st G) ∧
  (∀ (ls st : List Value) (G : mc_H), mc_ev X 172 77 ls (.int 2 :: st) G = mc_ev X 172 134 ls st G) ∧
  (∀ (ls st : List Value) (G : mc_H), mc_ev X 172 77 ls (.int 3 :: st) G = mc_ev X 172 139 ls st G) ∧
  (∀ (ls st : List Value) (G : mc_H), mc_ev X 172 77 ls (.int 4 :: st) G = mc_ev X 172 144 ls st G) ∧
  (∀ (ls st : List Value) (G : mc_H), mc_ev X 172 77 ls (.int 5 :: st) G = mc_ev X 172 149 ls st G) ∧
  (∀ (ls st : List Value) (G : mc_H), mc_ev X 172 77 ls (.int 6 :: st) G = mc_ev X 172 151 ls st G) ∧
  (∀ (ls st : List Value) (G : mc_H), mc_ev X 172 77 ls (.int 7 :: st) G = mc_ev X 172 153 ls st G) ∧
  (∀ (x : Int32) (ls st : List Value) (G : mc_H), (x.toInt < 0 ∨ 7 < x.toInt) → mc_ev X 172 77 ls (.int x :: st) G = mc_ev X 172 158 ls st G) ∧
  (∀ (v1 v2 v3 v4 : Value) (x : Nat) (st : List Value) (G : mc_H), mc_ev X 172 124 [.ref x, v1, v2, v3, v4] st G = mc_ev X 172 125 [.ref x, v1, v2, v3, v4] (.ref x :: st) G) ∧
  (∀ (r : Nat) (ls st : List Value) (G : mc_H), mc_ev X 172 125 ls (.ref r :: st) G = (mc_getf G r 8 3).bind (fun v => mc_ev X 172 128 ls (v :: st) G)) ∧
  (∀ (v : Int32) (ls : List Value) (G : mc_H), mc_ev X 172 128 ls [.int v] G = some (some (.int v), G)) ∧
  (∀ (v1 v2 v3 v4 : Value) (x : Nat) (st : List Value) (G : mc_H), mc_ev X 172 129 [.ref x, v1, v2, v3, v4] st G = mc_ev X 172 130 [.ref x, v1, v2, v3, v4] (.ref x :: st) G) ∧
  (∀ (r : Nat) (ls st : List Value) (G : mc_H), mc_ev X 172 130 ls (.ref r :: st) G = (mc_getf G r 8 4).bind (fun v => mc_ev X 172 133 ls (v :: st) G)) ∧
  (∀ (v : Int32) (ls : List Value) (G : mc_H), mc_ev X 172 133 ls [.int v] G = some (some (.int v), G)) ∧
  (∀ (v1 v2 v3 v4 : Value) (x : Nat) (st : List Value) (G : mc_H), mc_ev X 172 134 [.ref x, v1, v2, v3, v4] st G = mc_ev X 172 135 [.ref x, v1, v2, v3, v4] (.ref x :: st) G) ∧
  (∀ (r : Nat) (ls st : List Value) (G : mc_H), st.length ≤ 4 → mc_cls G r = some 8 → mc_ev X 172 135 ls (.ref r :: st) G = (mc_ev X 113 0 [.ref r] [] G).bind (fun q => mc_ev X 172 138 ls (q.1.toList ++ st) q.2)) ∧
  (∀ (v : Int32) (ls : List Value) (G : mc_H), mc_ev X 172 138 ls [.int v] G = some (some (.int v), G)) ∧
  (∀ (v1 v2 v3 v4 : Value) (x : Nat) (st : List Value) (G : mc_H), mc_ev X 172 139 [.ref x, v1, v2, v3, v4] st G = mc_ev X 172 140 [.ref x, v1, v2, v3, v4] (.ref x :: st) G) ∧
  (∀ (r : Nat) (ls st : List Value) (G : mc_H), st.length ≤ 4 → mc_cls G r = some 8 → mc_ev X 172 140 ls (.ref r :: st) G = (mc_ev X 115 0 [.ref r] [] G).bind (fun q => mc_ev X 172 143 ls (q.1.toList ++ st) q.2)) ∧
  (∀ (v : Int32) (ls : List Value) (G : mc_H), mc_ev X 172 143 ls [.int v] G = some (some (.int v), G)) ∧
  (∀ (v1 v2 v3 v4 : Value) (x : Nat) (st : List Value) (G : mc_H), mc_ev X 172 144 [.ref x, v1, v2, v3, v4] st G = mc_ev X 172 145 [.ref x, v1, v2, v3, v4] (.ref x :: st) G) ∧
  (∀ (r : Nat) (ls st : List Value) (G : mc_H), st.length ≤ 4 → mc_cls G r = some 8 → mc_ev X 172 145 ls (.ref r :: st) G = (mc_ev X 116 0 [.ref r] [] G).bind (fun q => mc_ev X 172 148 ls (q.1.toList ++ st) q.2)) ∧
  (∀ (v : Int32) (ls : List Value) (G : mc_H), mc_ev X 172 148 ls [.int v] G = some (some (.int v), G)) ∧
  (∀ (v0 v1 v3 v4 : Value) (x : Int32) (st : List Value) (G : mc_H), mc_ev X 172 149 [v0, v1, .int x, v3, v4] st G = mc_ev X 172 150 [v0, v1, .int x, v3, v4] (.int x :: st) G) ∧
  (∀ (v : Int32) (ls : List Value) (G : mc_H), mc_ev X 172 150 ls [.int v] G = some (some (.int v), G)) ∧
  (∀ (v0 v1 v2 v4 : Value) (x : Int32) (st : List Value) (G : mc_H), mc_ev X 172 151 [v0, v1, v2, .int x, v4] st G = mc_ev X 172 152 [v0, v1, v2, .int x, v4] (.int x :: st) G) ∧
  (∀ (v : Int32) (ls : List Value) (G : mc_H), mc_ev X 172 152 ls [.int v] G = some (some (.int v), G)) ∧
  (∀ (v1 v2 v3 v4 : Value) (x : Nat) (st : List Value) (G : mc_H), mc_ev X 172 153 [.ref x, v1, v2, v3, v4] st G = mc_ev X 172 154 [.ref x, v1, v2, v3, v4] (.ref x :: st) G) ∧
  (∀ (r : Nat) (ls st : List Value) (G : mc_H), mc_ev X 172 154 ls (.ref r :: st) G = (mc_getf G r 8 11).bind (fun v => mc_ev X 172 157 ls (v :: st) G)) ∧
  (∀ (v : Int32) (ls : List Value) (G : mc_H), mc_ev X 172 157 ls [.int v] G = some (some (.int v), G)) ∧
  (∀ (ls st : List Value) (G : mc_H), mc_ev X 172 158 ls st G = mc_ev X 172 159 ls (.int (-1) :: st) G) ∧
  (∀ (v : Int32) (ls : List Value) (G : mc_H), mc_ev X 172 159 ls [.int v] G = some (some (.int v), G)) := ⟨fun v1 v2 v3 v4 x st G => ev_aload_n rfl rfl,
  fun ls st G => ev_iconst rfl rfl,
  fun v r ls st G => ev_putfield rfl,
  fun ls st G => ev_iconst rfl rfl,
  fun v0 v1 v2 v3 v4 x st G => ev_istore_n (X := X) (k := 172) (pc := 6) (ls := [v0, v1, v2, v3, v4]) (st := st) (G := G) (j := 2) (x := x) rfl (Nat.le_of_ble_eq_true rfl),
  fun ls st G => ev_iconst rfl rfl,
  fun v0 v1 v2 v3 v4 x st G => ev_istore_n (X := X) (k := 172) (pc := 8) (ls := [v0, v1, v2, v3, v4]) (st := st) (G := G) (j := 3) (x := x) rfl (Nat.le_of_ble_eq_true rfl),
  fun v1 v2 v3 v4 x st G => ev_aload_n rfl rfl,
  fun r ls st G hr hG => ev_virt (As := []) rfl rfl rfl rfl rfl rfl hr hG,
  fun x y ls st G => ev_br rfl rfl,
  fun v0 v1 v3 v4 x st G => ev_iload_n rfl rfl,
  fun v1 v2 v3 v4 x st G => ev_aload_n rfl rfl,
  fun v0 v1 v2 v4 x st G => ev_iload_n rfl rfl,
  fun a0 r ls st G hr hG => ev_virt (As := [.int a0]) rfl rfl rfl rfl rfl rfl hr hG,
  fun x ls st G => ev_br rfl rfl,
  fun ls st G => ev_iconst rfl rfl,
  fun ls st G => ev_goto rfl rfl,
  fun ls st G => ev_iconst rfl rfl,
  fun x y ls st G => ev_iadd rfl,
  fun v0 v1 v2 v3 v4 x st G => ev_istore_n (X := X) (k := 172) (pc := 32) (ls := [v0, v1, v2, v3, v4]) (st := st) (G := G) (j := 2) (x := x) rfl (Nat.le_of_ble_eq_true rfl),
  fun v0 v1 v2 v4 x st G => ev_iinc (X := X) (k := 172) (pc := 33) (ls := [v0, v1, v2, .int x, v4]) (st := st) (G := G) (j := 3) (n := 1) (x := x) (v := 1) rfl rfl rfl,
  fun ls st G => ev_goto rfl rfl,
  fun ls st G => ev_iconst rfl rfl,
  fun v0 v1 v2 v3 v4 x st G => ev_istore_n (X := X) (k := 172) (pc := 40) (ls := [v0, v1, v2, v3, v4]) (st := st) (G := G) (j := 3) (x := x) rfl (Nat.le_of_ble_eq_true rfl),
  fun ls st G => ev_iconst rfl rfl,
  fun v0 v1 v2 v3 v4 x st G => ev_istore (X := X) (k := 172) (pc := 42) (ls := [v0, v1, v2, v3, v4]) (st := st) (G := G) (j := 4) (x := x) rfl (Nat.le_of_ble_eq_true rfl),
  fun v1 v2 v3 v4 x st G => ev_aload_n rfl rfl,
  fun r ls st G hr hG => ev_virt (As := []) rfl rfl rfl rfl rfl rfl hr hG,
  fun x y ls st G => ev_br rfl rfl,
  fun v0 v1 v2 v4 x st G => ev_iload_n rfl rfl,
  fun v1 v2 v3 v4 x st G => ev_aload_n rfl rfl,
  fun v0 v1 v2 v3 x st G => ev_iload rfl rfl,
  fun a0 r ls st G hr hG => ev_virt (As := [.int a0]) rfl rfl rfl rfl rfl rfl hr hG,
  fun x ls st G => ev_br rfl rfl,
  fun ls st G => ev_iconst rfl rfl,
  fun ls st G => ev_goto rfl rfl,
  fun ls st G => ev_iconst rfl rfl,
  fun x y ls st G => ev_iadd rfl,
  fun v0 v1 v2 v3 v4 x st G => ev_istore_n (X := X) (k := 172) (pc := 69) (ls := [v0, v1, v2, v3, v4]) (st := st) (G := G) (j := 3) (x := x) rfl (Nat.le_of_ble_eq_true rfl),
  fun v0 v1 v2 v3 x st G => ev_iinc (X := X) (k := 172) (pc := 70) (ls := [v0, v1, v2, v3, .int x]) (st := st) (G := G) (j := 4) (n := 1) (x := x) (v := 1) rfl rfl rfl,
  fun ls st G => ev_goto rfl rfl,
  fun v0 v2 v3 v4 x st G => ev_iload_n rfl rfl,
  fun ls st G => ev_tabIn rfl (by decide) rfl (by decide) rfl,
  fun ls st G => ev_tabIn rfl (by decide) rfl (by decide) rfl,
  fun ls st G => ev_tabIn rfl (by decide) rfl (by decide) rfl,
  fun ls st G => ev_tabIn rfl (by decide) rfl (by decide) rfl,
  fun ls st G => ev_tabIn rfl (by decide) rfl (by decide) rfl,
  fun ls st G => ev_tabIn rfl (by decide) rfl (by decide) rfl,
  fun ls st G => ev_tabIn rfl (by decide) rfl (by decide) rfl,
  fun ls st G => ev_tabIn rfl (by decide) rfl (by decide) rfl,
  fun x ls st G hx => ev_tabOut rfl rfl hx,
  fun v1 v2 v3 v4 x st G => ev_aload_n rfl rfl,
  fun r ls st G => ev_getfield rfl,
  fun v ls G => ev_ireturn rfl rfl,
  fun v1 v2 v3 v4 x st G => ev_aload_n rfl rfl,
  fun r ls st G => ev_getfield rfl,
  fun v ls G => ev_ireturn rfl rfl,
  fun v1 v2 v3 v4 x st G => ev_aload_n rfl rfl,
  fun r ls st G hr hG => ev_virt (As := []) rfl rfl rfl rfl rfl rfl hr hG,
  fun v ls G => ev_ireturn rfl rfl,
  fun v1 v2 v3 v4 x st G => ev_aload_n rfl rfl,
  fun r ls st G hr hG => ev_virt (As := []) rfl rfl rfl rfl rfl rfl hr hG,
  fun v ls G => ev_ireturn rfl rfl,
  fun v1 v2 v3 v4 x st G => ev_aload_n rfl rfl,
  fun r ls st G hr hG => ev_virt (As := []) rfl rfl rfl rfl rfl rfl hr hG,
  fun v ls G => ev_ireturn rfl rfl,
  fun v0 v1 v3 v4 x st G => ev_iload_n rfl rfl,
  fun v ls G => ev_ireturn rfl rfl,
  fun v0 v1 v2 v4 x st G => ev_iload_n rfl rfl,
  fun v ls G => ev_ireturn rfl rfl,
  fun v1 v2 v3 v4 x st G => ev_aload_n rfl rfl,
  fun r ls st G => ev_getfield rfl,
  fun v ls G => ev_ireturn rfl rfl,
  fun ls st G => ev_iconst rfl rfl,
  fun v ls G => ev_ireturn rfl rfl⟩
set_option maxRecDepth 100000 in
theorem e_173 {X : mc_X} : (∀ (x : Nat) (st : List Value) (G : mc_H), mc_ev X 173 0 [.ref x] st G = mc_ev X 173 1 [.ref x] (.ref x :: st) G) ∧
  (∀ (ls st : List Value) (G : mc_H), mc_ev X 173 1 ls st G = mc_ev X 173 2 ls (.int 0 :: st) G) ∧
  (∀ (v : Value) (r : Nat) (ls st : List Value) (G : mc_H), mc_ev X 173 2 ls (v :: .ref r :: st) G = (mc_setf G r 8 0 v).bind (fun G' => mc_ev X 173 5 ls st G')) ∧
  (∀ (x : Nat) (st : List Value) (G : mc_H), mc_ev X 173 5 [.ref x] st G = mc_ev X 173 6 [.ref x] (.ref x :: st) G) ∧
  (∀ (r : Nat) (ls st : List Value) (G : mc_H), mc_ev X 173 6 ls (.ref r :: st) G = (mc_getf G r 8 2).bind (fun v => mc_ev X 173 9 ls (v :: st) G)) ∧
  (∀ (v : Int64) (ls : List Value) (G : mc_H), mc_ev X 173 9 ls [.long v] G = some (some (.long v), G)) := ⟨fun  x st G => ev_aload_n rfl rfl,
  fun ls st G => ev_iconst rfl rfl,
  fun v r ls st G => ev_putfield rfl,
  fun  x st G => ev_aload_n rfl rfl,
  fun r ls st G => ev_getfield rfl,
  fun v ls G => ev_lreturn rfl rfl⟩
set_option maxRecDepth 100000 in
theorem e_174 {X : mc_X} : (∀ (x : Nat) (st : List Value) (G : mc_H), mc_ev X 174 0 [.ref x] st G = mc_ev X 174 1 [.ref x] (.ref x :: st) G) ∧
  (∀ (ls st : List Value) (G : mc_H), mc_ev X 174 1 ls st G = mc_ev X 174 2 ls (.int 0 :: st) G) ∧
  (∀ (v : Value) (r : Nat) (ls st : List Value) (G : mc_H), mc_ev X 174 2 ls (v :: .ref r :: st) G = (mc_setf G r 8 0 v).bind (fun G' => mc_ev X 174 5 ls st G')) ∧
  (∀ (x : Nat) (st : List Value) (G : mc_H), mc_ev X 174 5 [.ref x] st G = mc_ev X 174 6 [.ref x] (.ref x :: st) G) ∧
  (∀ (r : Nat) (ls st : List Value) (G : mc_H), mc_ev X 174 6 ls (.ref r :: st) G = (mc_getf G r 8 1).bind (fun v => mc_ev X 174 9 ls (v :: st) G)) ∧
  (∀ (v : Int32) (ls : List Value) (G : mc_H), mc_ev X 174 9 ls [.int v] G = some (some (.int v), G)) := ⟨fun  x st G => ev_aload_n rfl rfl,
  fun ls st G => ev_iconst rfl rfl,
  fun v r ls st G => ev_putfield rfl,
  fun  x st G => ev_aload_n rfl rfl,
  fun r ls st G => ev_getfield rfl,
  fun v ls G => ev_ireturn rfl rfl⟩
