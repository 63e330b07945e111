/-! THE PURE MACHINE IS SOUND, part 5: every step -/
section ZV
variable {D : va_G} {cA : Nat → ClassId} {b h0 : Nat} {X : Nat × (Nat → Int32)} {HL : Heap} {y pc n : Nat} {ls st : List Value} {m : zM} {q : Nat × List Value × List Value × zM}
theorem zcall_ninl {k : Nat} (h : zcall k st m = some (.inl q)) : False := by
  unfold zcall at h
  split at h
  next => cases h
  next => cases h
theorem zret_ninl (h : zret y st m = some (.inl q)) : False := by
  unfold zret at h
  split at h
  next =>
    split at h
    next => cases h
    next =>
      split at h
      next => cases h
      next => cases h
    next => cases h
  next => cases h
theorem zn1 {i : Instr} {k : Nat} (h : zlen i n = true) (e : zlen i n = (n == k)) : n = k := by
  rw [e] at h
  exact eq_of_beq h
theorem zact_sound (h : zact X y pc ls st m = some (.inl q)) : zSp D cA b h0 X HL y pc ls st m q := by
  unfold zact at h
  split at h
  next r hr =>
    have ok := zT_ok hr
    obtain ⟨i, n, a, bb, w⟩ := r
    unfold zOK at ok
    simp only [Bool.and_eq_true, decide_eq_true_eq] at ok
    obtain ⟨⟨hd, hn⟩, hw⟩ := ok
    cases i with
    | aload_n k => cases zn1 hn rfl; exact zs_aload_n hd h
    | aload k => cases zn1 hn rfl; exact zs_aload hd h
    | iload_n k => cases zn1 hn rfl; exact zs_iload_n hd h
    | iload k => cases zn1 hn rfl; exact zs_iload hd h
    | lload_n k => cases zn1 hn rfl; exact zs_lload_n hd h
    | lload k => cases zn1 hn rfl; exact zs_lload hd h
    | istore_n k => cases zn1 hn rfl; exact zs_istore_n hd h
    | istore k => cases zn1 hn rfl; exact zs_istore hd h
    | astore_n k => cases zn1 hn rfl; exact zs_astore_n hd h
    | astore k => cases zn1 hn rfl; exact zs_astore hd h
    | lstore_n k => cases zn1 hn rfl; exact zs_lstore_n hd h
    | lstore k => cases zn1 hn rfl; exact zs_lstore hd h
    | iconst k => cases zn1 hn rfl; exact zs_iconst hd h
    | bipush k => cases zn1 hn rfl; exact zs_bipush hd h
    | sipush k => cases zn1 hn rfl; exact zs_sipush hd h
    | lconst k => cases zn1 hn rfl; exact zs_lconst hd h
    | ldc2_w k =>
      cases zn1 hn rfl
      unfold zRw at hw
      simp only [Bool.and_eq_true] at hw
      exact zs_ldc2 hd hw.1 hw.2 h
    | getfield k => cases zn1 hn rfl; exact zs_get hd hw h
    | putfield k =>
      cases zn1 hn rfl
      unfold zRw at hw
      have hw := hw
      rw [Bool.and_eq_true] at hw
      exact zs_put hd hw.1 hw.2 h
    | iaload => cases zn1 hn rfl; exact zs_iald hd h
    | baload => cases zn1 hn rfl; exact zs_bald hd h
    | aaload => cases zn1 hn rfl; exact zs_aald hd h
    | iastore => cases zn1 hn rfl; exact zs_iast hd h
    | bastore => cases zn1 hn rfl; exact zs_bast hd h
    | aastore => cases zn1 hn rfl; exact zs_aast hd h
    | arraylength => cases zn1 hn rfl; exact zs_alen hd h
    | newarray t =>
      cases t with
      | int => cases zn1 hn rfl; exact zs_newa_i hd h
      | boolean => cases zn1 hn rfl; exact zs_newa_z hd h
      | _ => cases h
    | anewarray k =>
      cases zn1 hn rfl
      unfold zRw at hw
      simp only [Bool.and_eq_true] at hw
      exact zs_newq hd hw.1 hw.2 h
    | new k =>
      cases zn1 hn rfl
      unfold zRw at hw
      simp only [Bool.and_eq_true, decide_eq_true_eq] at hw
      exact zs_new hd hw.2 hw.1.1 hw.1.2 h
    | iadd => cases zn1 hn rfl; exact zs_iadd hd h
    | isub => cases zn1 hn rfl; exact zs_isub hd h
    | imul => cases zn1 hn rfl; exact zs_imul hd h
    | iand => cases zn1 hn rfl; exact zs_iand hd h
    | ixor => cases zn1 hn rfl; exact zs_ixor hd h
    | idiv => cases zn1 hn rfl; exact zs_idiv hd h
    | irem => cases zn1 hn rfl; exact zs_irem hd h
    | iinc k d => cases zn1 hn rfl; exact zs_iinc hd h
    | i2l => cases zn1 hn rfl; exact zs_i2l hd h
    | l2i => cases zn1 hn rfl; exact zs_l2i hd h
    | land => cases zn1 hn rfl; exact zs_land hd h
    | lor => cases zn1 hn rfl; exact zs_lor hd h
    | lcmp => cases zn1 hn rfl; exact zs_lcmp hd h
    | lshl => cases zn1 hn rfl; exact zs_lshl hd h
    | lushr => cases zn1 hn rfl; exact zs_lushr hd h
    | dup => cases zn1 hn rfl; exact zs_dup hd h
    | dup2 => cases zn1 hn rfl; exact zs_dup2 hd h
    | pop => cases zn1 hn rfl; exact zs_pop hd h
    | goto off => cases zn1 hn rfl; exact zs_goto hd h
    | ifCond c off =>
      cases zn1 hn rfl
      have h : (match st with | .int x :: st => zbr pc ls m off (zcmp c x 0) st | _ => none) = some (.inl q) := h
      split at h
      next => exact zs_if1 hd h
      next => cases h
    | if_icmp c off =>
      cases zn1 hn rfl
      have h : (match st with | .int y :: .int x :: st => zbr pc ls m off (zcmp c x y) st | _ => none) = some (.inl q) := h
      split at h
      next => exact zs_if2 hd h
      next => cases h
    | tableswitch d lo hi offs => exact zs_table hd h
    | lookupswitch d ps => exact zs_lookup hd h
    | ireturn => exact (zret_ninl h).elim
    | return_ =>
      have h2 : (if st = [] ∧ zRt y = none then (some (.inr (.inl (none, m))) : zRes) else none) = some (.inl q) := h
      split at h2
      next => cases h2
      next => cases h2
    | invokevirtual k => exact (zcall_ninl h).elim
    | invokespecial k =>
      have h2 : (if a = 1000 then zoinit pc ls st m else zcall a st m) = some (.inl q) := h
      split at h2
      next ha =>
        cases zn1 hn rfl
        unfold zRw at hw
        dsimp only at hw
        rw [if_pos ha] at hw
        simp only [Bool.and_eq_true, decide_eq_true_eq] at hw
        exact zs_oinit hd hw.1.1.1 hw.1.1.2 hw.1.2 hw.2 h2
      next => exact (zcall_ninl h2).elim
    | invokestatic k =>
      have h2 : (if a = 1001 then zacopy pc ls st m else if a = 1002 then zmin pc ls st m else zcall a st m) = some (.inl q) := h
      split at h2
      next ha =>
        cases zn1 hn rfl
        unfold zRw at hw
        dsimp only at hw
        rw [if_pos ha] at hw
        simp only [Bool.and_eq_true, decide_eq_true_eq] at hw
        exact zs_acopy hd hw.1.1.1 hw.1.1.2 hw.1.2 hw.2 h2
      next ha =>
        split at h2
        next ha2 =>
          cases zn1 hn rfl
          unfold zRw at hw
          dsimp only at hw
          rw [if_neg ha, if_pos ha2] at hw
          simp only [Bool.and_eq_true, decide_eq_true_eq] at hw
          exact zs_min hd hw.1.1.1 hw.1.1.2 hw.1.2 hw.2 h2
        next => exact (zcall_ninl h2).elim
    | _ => cases h
  next => cases h
/-- nothing is taken away from a memory -/
theorem zins_mono {r : zRow} (h : zins X y r pc ls st m = some (.inl q)) : m.2.1.length ≤ q.2.2.2.2.1.length ∧ m.1 ≤ q.2.2.2.1 := by
  have key : ∀ (p1 : Nat) (l1 s1 : List Value) (m1 : zM), zgo p1 l1 s1 m1 = some (.inl q) → (m.2.1.length ≤ m1.2.1.length ∧ m.1 ≤ m1.1) → m.2.1.length ≤ q.2.2.2.2.1.length ∧ m.1 ≤ q.2.2.2.1 := by
    intro p1 l1 s1 m1 e e2
    cases zgo_inv e
    exact e2
  have key2 : ∀ (kd k : Nat), m.2.1.length ≤ (zalloc m kd k).2.1.length ∧ m.1 ≤ (zalloc m kd k).1 := by
    intro kd k
    refine ⟨?_, Nat.le_add_right _ _⟩
    show _ ≤ (m.2.1 ++ [kd]).length
    rw [List.length_append]
    omega
  unfold zins at h
  split at h
  all_goals (try unfold zlda at h); (try unfold zld at h); (try unfold zldl at h); (try unfold zst at h); (try unfold zsta at h); (try unfold zstl at h); (try unfold zget at h); (try unfold zput at h); (try unfold ziald at h); (try unfold zbald at h); (try unfold zaald at h); (try unfold ziast at h); (try unfold zbast at h); (try unfold zaast at h); (try unfold zalen at h); (try unfold znewa at h); (try unfold znew at h); (try unfold zi2 at h); (try unfold zl2 at h); (try unfold zl1 at h); (try unfold zinc at h); (try unfold zbr at h); (try unfold zoinit at h); (try unfold zacopy at h); (try unfold zmin at h)
  all_goals (repeat' (split at h))
  all_goals first
    | (cases h; done)
    | exact key _ _ _ _ h ⟨Nat.le_refl _, Nat.le_refl _⟩
    | exact key _ _ _ _ h (key2 _ _)
    | exact (zcall_ninl h).elim
    | exact (zret_ninl h).elim
theorem zact_mono (h : zact X y pc ls st m = some (.inl q)) : m.2.1.length ≤ q.2.2.2.2.1.length ∧ m.1 ≤ q.2.2.2.1 := by
  unfold zact at h
  split at h
  next => exact zins_mono h
  next => cases h
end ZV
