/-! THE PURE MACHINE IS SOUND, part 2: a row for each instruction -/
def zEnv (D : va_G) (cA : Nat → ClassId) (b h0 : Nat) (X : Nat × (Nat → Int32)) (HL : Heap) (U : State) : Prop := va_K D zcl (zTy cA) U ∧ zNW U ∧ va_X b X.1 X.2 U HL ∧ HL.size = h0 + 1 ∧ b ≤ h0
def zCx (D : va_G) (cA : Nat → ClassId) (b h0 : Nat) (X : Nat × (Nat → Int32)) (HL : Heap) (y : Nat) (p : Program) (R : Room) (s : State) (mi : MethodId) (args : Array Value) (meth : Method) (c : Code) : Prop :=
  p.tables.exec = Jvm.exec ∧ c.code = zB y ∧ c.maxLocals = zL y ∧ s.vm.findClass (zOw y) = some mi.cls ∧ (∀ w ∈ zTT, w.before args s = true) ∧ zEnv D cA b h0 X HL s ∧ zF y ≤ R.frames ∧ zO y ≤ R.locals ∧ (zini y = true → meth.name = "<init>")
def zWd (D : va_G) (cA : Nat → ClassId) (h0 : Nat) (HL : Heap) (m : zM) (H : Heap) (locs : List Loc) : Prop := va_P D zcl (zwl cA h0 m) H ∧ va_S (zAf h0) HL H locs
def zSp (D : va_G) (cA : Nat → ClassId) (b h0 : Nat) (X : Nat × (Nat → Int32)) (HL : Heap) (y pc : Nat) (ls st : List Value) (m : zM) (q : Nat × List Value × List Value × zM) : Prop :=
  ∀ (l : Launch) (p : Program) (e : Env) (R : Room) (s : State) (mi : MethodId) (args : Array Value) (below : List Frame) (meth : Method) (c : Code) (H : Heap) (locs : List Loc) (cells slots : Nat) (Q : State → Prop) (lsC : Array Slot),
    zCx D cA b h0 X HL y p R s mi args meth c → zWd D cA h0 HL m H locs → s.heap.size + cells = h0 + m.2.1.length → zLs b h0 (zL y) lsC ls → cells + q.2.2.2.2.1.length ≤ R.cells + m.2.1.length → slots + q.2.2.2.1 ≤ R.slots + m.1 →
    (∀ (H' : Heap) (locs' : List Loc) (lsC' : Array Slot) (cells' slots' : Nat), zWd D cA h0 HL q.2.2.2 H' locs' → zLs b h0 (zL y) lsC' q.2.1 → cells' + m.2.1.length = cells + q.2.2.2.2.1.length → slots' + m.1 = slots + q.2.2.2.1 →
      W p l e R s mi args below meth c H' locs' cells' slots' Q (F0 mi q.1 lsC' (q.2.2.1.map (zv b h0)))) →
    W p l e R s mi args below meth c H locs cells slots Q (F0 mi pc lsC (st.map (zv b h0)))
theorem zgo_inv {pc : Nat} {ls st : List Value} {m : zM} {q : Nat × List Value × List Value × zM} (h : zgo pc ls st m = some (.inl q)) : q = (pc, ls, st, m) := by
  unfold zgo at h
  cases h
  rfl
/-- what the room says of the heap's size -/
theorem zW_size {p : Program} {l : Launch} {e : Env} {R : Room} {s : State} {m : MethodId} {args : Array Value} {below : List Frame} {meth : Method} {c : Code} {H : Heap} {locs : List Loc} {cells slots : Nat} {Q : State → Prop} {g : JFrame}
    (k : H.size ≤ s.heap.size + cells → W p l e R s m args below meth c H locs cells slots Q g) : W p l e R s m args below meth c H locs cells slots Q g := by
  intro T hT X
  have h := X.heapSize
  rw [hT] at h
  exact k h T hT X
theorem zWd_size {D : va_G} {cA : Nat → ClassId} {h0 : Nat} {HL H : Heap} {m : zM} {locs : List Loc} {N : Nat} (hw : zWd D cA h0 HL m H locs) (hH : HL.size = h0 + 1) (hl : 0 < m.2.1.length) (hN : N = h0 + m.2.1.length) (hu : H.size ≤ N) : H.size = h0 + m.2.1.length := by
  have h1 : h0 + 1 ≤ H.size := by rw [← hH]; exact hw.2.1
  by_cases h2 : m.2.1.length = 1
  · omega
  · have h3 : (zwl cA h0 m)[m.2.1.length - 2]? = some (h0 + (m.2.1.length - 2 + 1), zent cA h0 m (m.2.1.length - 2 + 1)) := by
      unfold zwl
      rw [List.getElem?_map, List.getElem?_range (by omega)]
      rfl
    have h4 := (hw.1 _ _ h3).lt
    dsimp only at h4
    omega
section ZS
variable {D : va_G} {cA : Nat → ClassId} {b h0 : Nat} {X : Nat × (Nat → Int32)} {HL : Heap} {y pc n : Nat} {ls st : List Value} {m : zM} {q : Nat × List Value × List Value × zM}
theorem zs_iload_n {k : Fin 4} (hd : decode (zB y) pc = .ok (.iload_n k, 1)) (h : zld k pc 1 ls st m = some (.inl q)) : zSp D cA b h0 X HL y pc ls st m q := by
  unfold zld at h
  split at h
  next x hx =>
    cases zgo_inv h
    intro l p e R s mi args below meth c H locs cells slots Q lsC hc hw hz hl hk1 hk2 k
    exact lv_iload_n hc.1 hc.2.1 hd rfl (zLs_at hl hx (fun z => by cases z)) (k H locs lsC cells slots hw hl rfl rfl)
  next => cases h
theorem zs_iload {k : Nat} (hd : decode (zB y) pc = .ok (.iload k, 2)) (h : zld k pc 2 ls st m = some (.inl q)) : zSp D cA b h0 X HL y pc ls st m q := by
  unfold zld at h
  split at h
  next x hx =>
    cases zgo_inv h
    intro l p e R s mi args below meth c H locs cells slots Q lsC hc hw hz hl hk1 hk2 k
    exact lv_iload hc.1 hc.2.1 hd (zLs_at hl hx (fun z => by cases z)) (k H locs lsC cells slots hw hl rfl rfl)
  next => cases h
theorem zs_lload_n {k : Fin 4} (hd : decode (zB y) pc = .ok (.lload_n k, 1)) (h : zldl k pc 1 ls st m = some (.inl q)) : zSp D cA b h0 X HL y pc ls st m q := by
  unfold zldl at h
  split at h
  next x hx =>
    cases zgo_inv h
    intro l p e R s mi args below meth c H locs cells slots Q lsC hc hw hz hl hk1 hk2 k
    exact lv_lload_n hc.1 hc.2.1 hd rfl (zLs_at hl hx (fun z => by cases z)) (k H locs lsC cells slots hw hl rfl rfl)
  next => cases h
theorem zs_lload {k : Nat} (hd : decode (zB y) pc = .ok (.lload k, 2)) (h : zldl k pc 2 ls st m = some (.inl q)) : zSp D cA b h0 X HL y pc ls st m q := by
  unfold zldl at h
  split at h
  next x hx =>
    cases zgo_inv h
    intro l p e R s mi args below meth c H locs cells slots Q lsC hc hw hz hl hk1 hk2 k
    exact lv_lload hc.1 hc.2.1 hd (zLs_at hl hx (fun z => by cases z)) (k H locs lsC cells slots hw hl rfl rfl)
  next => cases h
theorem zs_aload_n {k : Fin 4} (hd : decode (zB y) pc = .ok (.aload_n k, 1)) (h : zlda k pc 1 ls st m = some (.inl q)) : zSp D cA b h0 X HL y pc ls st m q := by
  unfold zlda at h
  split at h
  next x hx =>
    cases zgo_inv h
    intro l p e R s mi args below meth c H locs cells slots Q lsC hc hw hz hl hk1 hk2 k
    exact lv_aload_n hc.1 hc.2.1 hd rfl (zLs_at hl hx (fun z => by cases z)) (k H locs lsC cells slots hw hl rfl rfl)
  next => cases h
theorem zs_aload {k : Nat} (hd : decode (zB y) pc = .ok (.aload k, 2)) (h : zlda k pc 2 ls st m = some (.inl q)) : zSp D cA b h0 X HL y pc ls st m q := by
  unfold zlda at h
  split at h
  next x hx =>
    cases zgo_inv h
    intro l p e R s mi args below meth c H locs cells slots Q lsC hc hw hz hl hk1 hk2 k
    exact lv_aload hc.1 hc.2.1 hd (zLs_at hl hx (fun z => by cases z)) (k H locs lsC cells slots hw hl rfl rfl)
  next => cases h
theorem zs_istore_n {k : Fin 4} (hd : decode (zB y) pc = .ok (.istore_n k, 1)) (h : zst k pc 1 ls st m = some (.inl q)) : zSp D cA b h0 X HL y pc ls st m q := by
  unfold zst at h
  split at h
  next x st =>
    split at h
    next hf =>
      cases zgo_inv h
      intro l p e R s mi args below meth c H locs cells slots Q lsC hc hw hz hl hk1 hk2 k
      exact lv_istore_n hc.1 hc.2.1 hd rfl hl.1 (hl.2 ▸ hf.1) rfl (fun ls' h' => k H locs ls' cells slots hw (zLs_set (v := .int x) hl hf.2 h') rfl rfl)
    next => cases h
  next => cases h
theorem zs_istore {k : Nat} (hd : decode (zB y) pc = .ok (.istore k, 2)) (h : zst k pc 2 ls st m = some (.inl q)) : zSp D cA b h0 X HL y pc ls st m q := by
  unfold zst at h
  split at h
  next x st =>
    split at h
    next hf =>
      cases zgo_inv h
      intro l p e R s mi args below meth c H locs cells slots Q lsC hc hw hz hl hk1 hk2 k
      exact lv_istore hc.1 hc.2.1 hd hl.1 (hl.2 ▸ hf.1) rfl (fun ls' h' => k H locs ls' cells slots hw (zLs_set (v := .int x) hl hf.2 h') rfl rfl)
    next => cases h
  next => cases h
theorem zs_astore_n {k : Fin 4} (hd : decode (zB y) pc = .ok (.astore_n k, 1)) (h : zsta k pc 1 ls st m = some (.inl q)) : zSp D cA b h0 X HL y pc ls st m q := by
  unfold zsta at h
  split at h
  next x st =>
    split at h
    next hf =>
      cases zgo_inv h
      intro l p e R s mi args below meth c H locs cells slots Q lsC hc hw hz hl hk1 hk2 k
      exact lv_astore_n hc.1 hc.2.1 hd rfl hl.1 (hl.2 ▸ hf.1) rfl (fun ls' h' => k H locs ls' cells slots hw (zLs_set (v := .ref x) hl hf.2 h') rfl rfl)
    next => cases h
  next => cases h
theorem zs_astore {k : Nat} (hd : decode (zB y) pc = .ok (.astore k, 2)) (h : zsta k pc 2 ls st m = some (.inl q)) : zSp D cA b h0 X HL y pc ls st m q := by
  unfold zsta at h
  split at h
  next x st =>
    split at h
    next hf =>
      cases zgo_inv h
      intro l p e R s mi args below meth c H locs cells slots Q lsC hc hw hz hl hk1 hk2 k
      exact lv_astore hc.1 hc.2.1 hd hl.1 (hl.2 ▸ hf.1) rfl (fun ls' h' => k H locs ls' cells slots hw (zLs_set (v := .ref x) hl hf.2 h') rfl rfl)
    next => cases h
  next => cases h
theorem zs_lstore_n {k : Fin 4} (hd : decode (zB y) pc = .ok (.lstore_n k, 1)) (h : zstl k pc 1 ls st m = some (.inl q)) : zSp D cA b h0 X HL y pc ls st m q := by
  unfold zstl at h
  split at h
  next x st =>
    split at h
    next hf =>
      cases zgo_inv h
      intro l p e R s mi args below meth c H locs cells slots Q lsC hc hw hz hl hk1 hk2 k
      exact lv_lstore_n hc.1 hc.2.1 hd rfl hl.1 (hl.2 ▸ hf.1) rfl (fun ls' h' => k H locs ls' cells slots hw (zLs_set2 (v := .long x) hl hf.2 hf.1 h') rfl rfl)
    next => cases h
  next => cases h
theorem zs_lstore {k : Nat} (hd : decode (zB y) pc = .ok (.lstore k, 2)) (h : zstl k pc 2 ls st m = some (.inl q)) : zSp D cA b h0 X HL y pc ls st m q := by
  unfold zstl at h
  split at h
  next x st =>
    split at h
    next hf =>
      cases zgo_inv h
      intro l p e R s mi args below meth c H locs cells slots Q lsC hc hw hz hl hk1 hk2 k
      exact lv_lstore hc.1 hc.2.1 hd hl.1 (hl.2 ▸ hf.1) rfl (fun ls' h' => k H locs ls' cells slots hw (zLs_set2 (v := .long x) hl hf.2 hf.1 h') rfl rfl)
    next => cases h
  next => cases h
theorem zs_iinc {k : Nat} {d : Int} (hd : decode (zB y) pc = .ok (.iinc k d, 3)) (h : zinc k d pc ls st m = some (.inl q)) : zSp D cA b h0 X HL y pc ls st m q := by
  unfold zinc at h
  split at h
  next x hx =>
    split at h
    next hf =>
      cases zgo_inv h
      intro l p e R s mi args below meth c H locs cells slots Q lsC hc hw hz hl hk1 hk2 k1
      have hkl : k < ls.length := (List.getElem?_eq_some_iff.mp hx).1
      have hm : (k, Value.int x) ∈ zll b h0 0 ls := (zll_mem ls 0 k _).mpr ⟨Nat.zero_le _, .int x, hx, (fun z => by cases z), rfl⟩
      obtain ⟨j, hj⟩ := List.getElem?_of_mem hm
      exact lv_iinc hc.1 hc.2.1 hd hl.1 (k := j) hj rfl (hl.2 ▸ hkl) rfl (fun ls' h' => k1 H locs ls' cells slots hw (zLs_set (v := .int (x + Int32.ofInt d)) hl hf h') rfl rfl)
    next => cases h
  next => cases h
theorem zs_iconst {i : Int} (hd : decode (zB y) pc = .ok (.iconst i, 1)) (h : zgo (pc + 1) ls (.int (Int32.ofInt i) :: st) m = some (.inl q)) : zSp D cA b h0 X HL y pc ls st m q := by
  cases zgo_inv h
  intro l p e R s mi args below meth c H locs cells slots Q lsC hc hw hz hl hk1 hk2 k
  exact lv_iconst hc.1 hc.2.1 hd rfl (k H locs lsC cells slots hw hl rfl rfl)
theorem zs_bipush {i : Int} (hd : decode (zB y) pc = .ok (.bipush i, 2)) (h : zgo (pc + 2) ls (.int (Int8.ofInt i).toInt32 :: st) m = some (.inl q)) : zSp D cA b h0 X HL y pc ls st m q := by
  cases zgo_inv h
  intro l p e R s mi args below meth c H locs cells slots Q lsC hc hw hz hl hk1 hk2 k
  exact lv_bipush hc.1 hc.2.1 hd rfl (k H locs lsC cells slots hw hl rfl rfl)
theorem zs_sipush {i : Int} (hd : decode (zB y) pc = .ok (.sipush i, 3)) (h : zgo (pc + 3) ls (.int (Int16.ofInt i).toInt32 :: st) m = some (.inl q)) : zSp D cA b h0 X HL y pc ls st m q := by
  cases zgo_inv h
  intro l p e R s mi args below meth c H locs cells slots Q lsC hc hw hz hl hk1 hk2 k
  exact lv_sipush hc.1 hc.2.1 hd rfl (k H locs lsC cells slots hw hl rfl rfl)
theorem zs_lconst {i : Fin 2} (hd : decode (zB y) pc = .ok (.lconst i, 1)) (h : zgo (pc + 1) ls (.long (Int64.ofNat (i : Nat)) :: st) m = some (.inl q)) : zSp D cA b h0 X HL y pc ls st m q := by
  cases zgo_inv h
  intro l p e R s mi args below meth c H locs cells slots Q lsC hc hw hz hl hk1 hk2 k
  exact lv_lconst hc.1 hc.2.1 hd rfl (k H locs lsC cells slots hw hl rfl rfl)
theorem zs_ldc2 {i a w : Nat} (hd : decode (zB y) pc = .ok (.ldc2_w i, 3)) (hzw : zw w (.constantLong (zOw y) i (Int64.ofNat a)) = true) (hg : goodWord (.constantLong (zOw y) i (Int64.ofNat a)) = true) (h : zgo (pc + 3) ls (.long (Int64.ofNat a) :: st) m = some (.inl q)) : zSp D cA b h0 X HL y pc ls st m q := by
  cases zgo_inv h
  intro l p e R s mi args below meth c H locs cells slots Q lsC hc hw hz hl hk1 hk2 k
  exact lv_ldc2 hc.1 hc.2.1 hc.2.2.2.1 (hc.2.2.2.2.1 _ (zTT_mem hzw hg)) hd (k H locs lsC cells slots hw hl rfl rfl)
theorem zs_iadd (hd : decode (zB y) pc = .ok (.iadd, 1)) (h : zi2 pc ls m (fun x y => x + y) st = some (.inl q)) : zSp D cA b h0 X HL y pc ls st m q := by
  unfold zi2 at h
  split at h
  next y x st =>
    cases zgo_inv h
    intro l p e R s mi args below meth c H locs cells slots Q lsC hc hw hz hl hk1 hk2 k
    exact lv_iadd hc.1 hc.2.1 hd (k H locs lsC cells slots hw hl rfl rfl)
  next => cases h
theorem zs_isub (hd : decode (zB y) pc = .ok (.isub, 1)) (h : zi2 pc ls m (fun x y => x - y) st = some (.inl q)) : zSp D cA b h0 X HL y pc ls st m q := by
  unfold zi2 at h
  split at h
  next y x st =>
    cases zgo_inv h
    intro l p e R s mi args below meth c H locs cells slots Q lsC hc hw hz hl hk1 hk2 k
    exact lv_isub hc.1 hc.2.1 hd (k H locs lsC cells slots hw hl rfl rfl)
  next => cases h
theorem zs_imul (hd : decode (zB y) pc = .ok (.imul, 1)) (h : zi2 pc ls m (fun x y => x * y) st = some (.inl q)) : zSp D cA b h0 X HL y pc ls st m q := by
  unfold zi2 at h
  split at h
  next y x st =>
    cases zgo_inv h
    intro l p e R s mi args below meth c H locs cells slots Q lsC hc hw hz hl hk1 hk2 k
    exact lv_imul hc.1 hc.2.1 hd (k H locs lsC cells slots hw hl rfl rfl)
  next => cases h
theorem zs_iand (hd : decode (zB y) pc = .ok (.iand, 1)) (h : zi2 pc ls m (fun x y => x &&& y) st = some (.inl q)) : zSp D cA b h0 X HL y pc ls st m q := by
  unfold zi2 at h
  split at h
  next y x st =>
    cases zgo_inv h
    intro l p e R s mi args below meth c H locs cells slots Q lsC hc hw hz hl hk1 hk2 k
    exact lv_iand hc.1 hc.2.1 hd (k H locs lsC cells slots hw hl rfl rfl)
  next => cases h
theorem zs_ixor (hd : decode (zB y) pc = .ok (.ixor, 1)) (h : zi2 pc ls m (fun x y => x ^^^ y) st = some (.inl q)) : zSp D cA b h0 X HL y pc ls st m q := by
  unfold zi2 at h
  split at h
  next y x st =>
    cases zgo_inv h
    intro l p e R s mi args below meth c H locs cells slots Q lsC hc hw hz hl hk1 hk2 k
    exact lv_ixor hc.1 hc.2.1 hd (k H locs lsC cells slots hw hl rfl rfl)
  next => cases h
theorem zs_idiv (hd : decode (zB y) pc = .ok (.idiv, 1)) (h : (match st with | .int y :: .int x :: st => if y = 0 then none else zgo (pc + 1) ls (.int (x / y) :: st) m | _ => none) = some (.inl q)) : zSp D cA b h0 X HL y pc ls st m q := by
  split at h
  next y x st =>
    split at h
    next => cases h
    next hne =>
      cases zgo_inv h
      intro l p e R s mi args below meth c H locs cells slots Q lsC hc hw hz hl hk1 hk2 k
      exact lv_idiv hc.1 hc.2.1 hd hne (k H locs lsC cells slots hw hl rfl rfl)
  next => cases h
theorem zs_irem (hd : decode (zB y) pc = .ok (.irem, 1)) (h : (match st with | .int y :: .int x :: st => if y = 0 then none else zgo (pc + 1) ls (.int (x - x / y * y) :: st) m | _ => none) = some (.inl q)) : zSp D cA b h0 X HL y pc ls st m q := by
  split at h
  next y x st =>
    split at h
    next => cases h
    next hne =>
      cases zgo_inv h
      intro l p e R s mi args below meth c H locs cells slots Q lsC hc hw hz hl hk1 hk2 k
      exact lv_irem hc.1 hc.2.1 hd hne (k H locs lsC cells slots hw hl rfl rfl)
  next => cases h
theorem zs_i2l (hd : decode (zB y) pc = .ok (.i2l, 1)) (h : (match st with | .int x :: st => zgo (pc + 1) ls (.long x.toInt64 :: st) m | _ => none) = some (.inl q)) : zSp D cA b h0 X HL y pc ls st m q := by
  split at h
  next x st =>
    cases zgo_inv h
    intro l p e R s mi args below meth c H locs cells slots Q lsC hc hw hz hl hk1 hk2 k
    exact lv_i2l hc.1 hc.2.1 hd rfl (k H locs lsC cells slots hw hl rfl rfl)
  next => cases h
theorem zs_l2i (hd : decode (zB y) pc = .ok (.l2i, 1)) (h : (match st with | .long x :: st => zgo (pc + 1) ls (.int x.toInt32 :: st) m | _ => none) = some (.inl q)) : zSp D cA b h0 X HL y pc ls st m q := by
  split at h
  next x st =>
    cases zgo_inv h
    intro l p e R s mi args below meth c H locs cells slots Q lsC hc hw hz hl hk1 hk2 k
    exact lv_l2i hc.1 hc.2.1 hd rfl (k H locs lsC cells slots hw hl rfl rfl)
  next => cases h
theorem zs_land (hd : decode (zB y) pc = .ok (.land, 1)) (h : zl2 pc ls m (fun x y => .long (x &&& y)) st = some (.inl q)) : zSp D cA b h0 X HL y pc ls st m q := by
  unfold zl2 at h
  split at h
  next y x st =>
    cases zgo_inv h
    intro l p e R s mi args below meth c H locs cells slots Q lsC hc hw hz hl hk1 hk2 k
    exact lv_land hc.1 hc.2.1 hd (k H locs lsC cells slots hw hl rfl rfl)
  next => cases h
theorem zs_lor (hd : decode (zB y) pc = .ok (.lor, 1)) (h : zl2 pc ls m (fun x y => .long (x ||| y)) st = some (.inl q)) : zSp D cA b h0 X HL y pc ls st m q := by
  unfold zl2 at h
  split at h
  next y x st =>
    cases zgo_inv h
    intro l p e R s mi args below meth c H locs cells slots Q lsC hc hw hz hl hk1 hk2 k
    exact lv_lor hc.1 hc.2.1 hd (k H locs lsC cells slots hw hl rfl rfl)
  next => cases h
theorem zs_lcmp (hd : decode (zB y) pc = .ok (.lcmp, 1)) (h : zl2 pc ls m (fun x y => .int (lg_cmp x y)) st = some (.inl q)) : zSp D cA b h0 X HL y pc ls st m q := by
  unfold zl2 at h
  split at h
  next y x st =>
    cases zgo_inv h
    intro l p e R s mi args below meth c H locs cells slots Q lsC hc hw hz hl hk1 hk2 k
    exact W.lcmp hc.1 hc.2.1 hd (k H locs lsC cells slots hw hl rfl rfl)
  next => cases h
theorem zs_lshl (hd : decode (zB y) pc = .ok (.lshl, 1)) (h : zl1 pc ls m (fun x y => x <<< (y.toInt64 &&& 63)) st = some (.inl q)) : zSp D cA b h0 X HL y pc ls st m q := by
  unfold zl1 at h
  split at h
  next y x st =>
    cases zgo_inv h
    intro l p e R s mi args below meth c H locs cells slots Q lsC hc hw hz hl hk1 hk2 k
    exact lv_lshl hc.1 hc.2.1 hd rfl (k H locs lsC cells slots hw hl rfl rfl)
  next => cases h
theorem zs_lushr (hd : decode (zB y) pc = .ok (.lushr, 1)) (h : zl1 pc ls m (fun x y => (x.toUInt64 >>> (y.toInt64.toUInt64 &&& Int64.toUInt64 63)).toInt64) st = some (.inl q)) : zSp D cA b h0 X HL y pc ls st m q := by
  unfold zl1 at h
  split at h
  next y x st =>
    cases zgo_inv h
    intro l p e R s mi args below meth c H locs cells slots Q lsC hc hw hz hl hk1 hk2 k
    exact lv_lushr hc.1 hc.2.1 hd rfl (k H locs lsC cells slots hw hl rfl rfl)
  next => cases h
theorem zs_dup (hd : decode (zB y) pc = .ok (.dup, 1)) (h : (match st with | v :: st => if v.category = 1 then zgo (pc + 1) ls (v :: v :: st) m else none | _ => none) = some (.inl q)) : zSp D cA b h0 X HL y pc ls st m q := by
  split at h
  next v st =>
    split at h
    next hv =>
      cases zgo_inv h
      intro l p e R s mi args below meth c H locs cells slots Q lsC hc hw hz hl hk1 hk2 k
      exact lv_dup hc.1 hc.2.1 hd (by rw [zv_cat]; exact hv) (k H locs lsC cells slots hw hl rfl rfl)
    next => cases h
  next => cases h
theorem zs_pop (hd : decode (zB y) pc = .ok (.pop, 1)) (h : (match st with | v :: st => if v.category = 1 then zgo (pc + 1) ls st m else none | _ => none) = some (.inl q)) : zSp D cA b h0 X HL y pc ls st m q := by
  split at h
  next v st =>
    split at h
    next hv =>
      cases zgo_inv h
      intro l p e R s mi args below meth c H locs cells slots Q lsC hc hw hz hl hk1 hk2 k
      exact lv_pop hc.1 hc.2.1 hd (by rw [zv_cat]; exact hv) (k H locs lsC cells slots hw hl rfl rfl)
    next => cases h
  next => cases h
theorem zs_dup2 (hd : decode (zB y) pc = .ok (.dup2, 1)) (h : (match st with | v :: w :: st => if v.category = 1 ∧ w.category = 1 then zgo (pc + 1) ls (v :: w :: v :: w :: st) m else none | _ => none) = some (.inl q)) : zSp D cA b h0 X HL y pc ls st m q := by
  split at h
  next v w st =>
    split at h
    next hv =>
      cases zgo_inv h
      intro l p e R s mi args below meth c H locs cells slots Q lsC hc hw hz hl hk1 hk2 k
      exact lv_dup2_11 hc.1 hc.2.1 hd (by rw [zv_cat]; exact hv.1) (by rw [zv_cat]; exact hv.2) (k H locs lsC cells slots hw hl rfl rfl)
    next => cases h
  next => cases h
theorem zs_goto {off : Int} (hd : decode (zB y) pc = .ok (.goto off, 3)) (h : (if 0 ≤ (pc : Int) + off then zgo ((pc : Int) + off).toNat ls st m else none) = some (.inl q)) : zSp D cA b h0 X HL y pc ls st m q := by
  split at h
  next ho =>
    cases zgo_inv h
    intro l p e R s mi args below meth c H locs cells slots Q lsC hc hw hz hl hk1 hk2 k
    exact lv_goto hc.1 hc.2.1 hd (Int.toNat_of_nonneg ho).symm (k H locs lsC cells slots hw hl rfl rfl)
  next => cases h
theorem zbr_inv {off : Int} {c : Bool} (h : zbr pc ls m off c st = some (.inl q)) : 0 ≤ (pc : Int) + off ∧ q = (cond c ((pc : Int) + off).toNat (pc + 3), ls, st, m) := by
  unfold zbr at h
  split at h
  next ho => exact ⟨ho, zgo_inv h⟩
  next => cases h
theorem zs_if1 {cnd : ClassFile.Cond} {off : Int} {x : Int32} (hd : decode (zB y) pc = .ok (.ifCond cnd off, 3)) (h : zbr pc ls m off (zcmp cnd x 0) st = some (.inl q)) : zSp D cA b h0 X HL y pc ls (.int x :: st) m q := by
  obtain ⟨ho, e⟩ := zbr_inv h
  subst e
  intro l p e R s mi args below meth c H locs cells slots Q lsC hc hw hz hl hk1 hk2 k
  cases cnd with
  | eq =>
    refine lv_if_eq hc.1 hc.2.1 hd (Int.toNat_of_nonneg ho).symm (fun z => ?_) (fun z => ?_)
    · have e : zcmp .eq x 0 = true := decide_eq_true z
      rw [e] at k
      exact k H locs lsC cells slots hw hl rfl rfl
    · have e : zcmp .eq x 0 = false := decide_eq_false z
      rw [e] at k
      exact k H locs lsC cells slots hw hl rfl rfl
  | ne =>
    refine lv_if_ne hc.1 hc.2.1 hd (Int.toNat_of_nonneg ho).symm (fun z => ?_) (fun z => ?_)
    · have e : zcmp .ne x 0 = true := decide_eq_true z
      rw [e] at k
      exact k H locs lsC cells slots hw hl rfl rfl
    · have e : zcmp .ne x 0 = false := decide_eq_false (fun w => w z)
      rw [e] at k
      exact k H locs lsC cells slots hw hl rfl rfl
  | lt =>
    refine lv_if_lt hc.1 hc.2.1 hd (Int.toNat_of_nonneg ho).symm (fun z => ?_) (fun z => ?_)
    · have e : zcmp .lt x 0 = true := decide_eq_true z
      rw [e] at k
      exact k H locs lsC cells slots hw hl rfl rfl
    · have e : zcmp .lt x 0 = false := decide_eq_false z
      rw [e] at k
      exact k H locs lsC cells slots hw hl rfl rfl
  | ge =>
    refine lv_if_ge hc.1 hc.2.1 hd (Int.toNat_of_nonneg ho).symm (fun z => ?_) (fun z => ?_)
    · have e : zcmp .ge x 0 = true := decide_eq_true z
      rw [e] at k
      exact k H locs lsC cells slots hw hl rfl rfl
    · have e : zcmp .ge x 0 = false := decide_eq_false z
      rw [e] at k
      exact k H locs lsC cells slots hw hl rfl rfl
  | gt =>
    refine lv_if_gt hc.1 hc.2.1 hd (Int.toNat_of_nonneg ho).symm (fun z => ?_) (fun z => ?_)
    · have e : zcmp .gt x 0 = true := decide_eq_true z
      rw [e] at k
      exact k H locs lsC cells slots hw hl rfl rfl
    · have e : zcmp .gt x 0 = false := decide_eq_false z
      rw [e] at k
      exact k H locs lsC cells slots hw hl rfl rfl
  | le =>
    refine lv_if_le hc.1 hc.2.1 hd (Int.toNat_of_nonneg ho).symm (fun z => ?_) (fun z => ?_)
    · have e : zcmp .le x 0 = true := decide_eq_true z
      rw [e] at k
      exact k H locs lsC cells slots hw hl rfl rfl
    · have e : zcmp .le x 0 = false := decide_eq_false z
      rw [e] at k
      exact k H locs lsC cells slots hw hl rfl rfl
theorem zs_if2 {cnd : ClassFile.Cond} {off : Int} {x z : Int32} (hd : decode (zB y) pc = .ok (.if_icmp cnd off, 3)) (h : zbr pc ls m off (zcmp cnd x z) st = some (.inl q)) : zSp D cA b h0 X HL y pc ls (.int z :: .int x :: st) m q := by
  obtain ⟨ho, e⟩ := zbr_inv h
  subst e
  intro l p e R s mi args below meth c H locs cells slots Q lsC hc hw hz hl hk1 hk2 k
  cases cnd with
  | eq =>
    refine lv_icmp_eq hc.1 hc.2.1 hd (Int.toNat_of_nonneg ho).symm (fun zz => ?_) (fun zz => ?_)
    · have e : zcmp .eq x z = true := decide_eq_true zz
      rw [e] at k
      exact k H locs lsC cells slots hw hl rfl rfl
    · have e : zcmp .eq x z = false := decide_eq_false zz
      rw [e] at k
      exact k H locs lsC cells slots hw hl rfl rfl
  | ne =>
    refine lv_icmp_ne hc.1 hc.2.1 hd (Int.toNat_of_nonneg ho).symm (fun zz => ?_) (fun zz => ?_)
    · have e : zcmp .ne x z = true := decide_eq_true zz
      rw [e] at k
      exact k H locs lsC cells slots hw hl rfl rfl
    · have e : zcmp .ne x z = false := decide_eq_false (fun w => w zz)
      rw [e] at k
      exact k H locs lsC cells slots hw hl rfl rfl
  | lt =>
    refine lv_icmp_lt hc.1 hc.2.1 hd (Int.toNat_of_nonneg ho).symm (fun zz => ?_) (fun zz => ?_)
    · have e : zcmp .lt x z = true := decide_eq_true zz
      rw [e] at k
      exact k H locs lsC cells slots hw hl rfl rfl
    · have e : zcmp .lt x z = false := decide_eq_false zz
      rw [e] at k
      exact k H locs lsC cells slots hw hl rfl rfl
  | ge =>
    refine lv_icmp_ge hc.1 hc.2.1 hd (Int.toNat_of_nonneg ho).symm (fun zz => ?_) (fun zz => ?_)
    · have e : zcmp .ge x z = true := decide_eq_true zz
      rw [e] at k
      exact k H locs lsC cells slots hw hl rfl rfl
    · have e : zcmp .ge x z = false := decide_eq_false zz
      rw [e] at k
      exact k H locs lsC cells slots hw hl rfl rfl
  | gt =>
    refine lv_icmp_gt hc.1 hc.2.1 hd (Int.toNat_of_nonneg ho).symm (fun zz => ?_) (fun zz => ?_)
    · have e : zcmp .gt x z = true := decide_eq_true zz
      rw [e] at k
      exact k H locs lsC cells slots hw hl rfl rfl
    · have e : zcmp .gt x z = false := decide_eq_false zz
      rw [e] at k
      exact k H locs lsC cells slots hw hl rfl rfl
  | le =>
    refine lv_icmp_le hc.1 hc.2.1 hd (Int.toNat_of_nonneg ho).symm (fun zz => ?_) (fun zz => ?_)
    · have e : zcmp .le x z = true := decide_eq_true zz
      rw [e] at k
      exact k H locs lsC cells slots hw hl rfl rfl
    · have e : zcmp .le x z = false := decide_eq_false zz
      rw [e] at k
      exact k H locs lsC cells slots hw hl rfl rfl
theorem zs_table {d lo hi : Int} {offs : Array Int} {len : Nat} (hd : decode (zB y) pc = .ok (.tableswitch d lo hi offs, len)) (h : (match st with | .int x :: st => (match (if x.toInt < lo ∨ hi < x.toInt then some d else offs[(x.toInt - lo).toNat]?) with | some off => if 0 ≤ (pc : Int) + off then zgo ((pc : Int) + off).toNat ls st m else none | none => none) | _ => none) = some (.inl q)) : zSp D cA b h0 X HL y pc ls st m q := by
  split at h
  next x st =>
    split at h
    next off heq =>
      split at h
      next ho =>
        cases zgo_inv h
        intro l p e R s mi args below meth c H locs cells slots Q lsC hc hw hz hl hk1 hk2 k
        by_cases hx : x.toInt < lo ∨ hi < x.toInt
        · rw [if_pos hx] at heq
          cases heq
          exact lv_tableOut hc.1 hc.2.1 hd hx (Int.toNat_of_nonneg ho).symm (k H locs lsC cells slots hw hl rfl rfl)
        · rw [if_neg hx] at heq
          exact lv_tableIn hc.1 hc.2.1 hd (fun z => hx (Or.inl z)) (fun z => hx (Or.inr z)) heq (Int.toNat_of_nonneg ho).symm (k H locs lsC cells slots hw hl rfl rfl)
      next => cases h
    next => cases h
  next => cases h
theorem zs_lookup {d : Int} {ps : Array (Int × Int)} {len : Nat} (hd : decode (zB y) pc = .ok (.lookupswitch d ps, len)) (h : (match st with | .int x :: st => if 0 ≤ (pc : Int) + Op.lookupswitch.offset ps.toList d x.toInt ∧ (ps.toList.zip (ps.toList.drop 1)).all (fun (a, next) => a.1 < next.1) = true then zgo ((pc : Int) + Op.lookupswitch.offset ps.toList d x.toInt).toNat ls st m else none | _ => none) = some (.inl q)) : zSp D cA b h0 X HL y pc ls st m q := by
  split at h
  next x st =>
    split at h
    next ho =>
      cases zgo_inv h
      intro l p e R s mi args below meth c H locs cells slots Q lsC hc hw hz hl hk1 hk2 k
      exact lv_lookup hc.1 hc.2.1 hd ho.2 rfl (Int.toNat_of_nonneg ho.1).symm (k H locs lsC cells slots hw hl rfl rfl)
    next => cases h
  next => cases h
end ZS
