/-! THE PURE MACHINE AS EQUATIONS: zr is what a run comes to, whatever steps it takes -/
theorem zrun_more {X : Nat × (Nat → Int32)} : ∀ (n y pc : Nat) (ls st : List Value) (m : zM) (r : Option Value × zM), zrun X n y pc ls st m = some r → zrun X (n + 1) y pc ls st m = some r
  | 0, _, _, _, _, _, _, h => by cases h
  | n + 1, y, pc, ls, st, m, r, h => by
    unfold zrun at h ⊢
    split at h
    next q e =>
      exact zrun_more n _ _ _ _ _ _ h
    next q e =>
      exact h
    next q e =>
      split at h
      next v e2 =>
        have h1 := zrun_more n _ _ _ _ _ _ e2
        rw [h1]
        exact zrun_more n _ _ _ _ _ _ h
      next => cases h
    next => cases h
theorem zrun_le {X : Nat × (Nat → Int32)} {n y pc : Nat} {ls st : List Value} {m : zM} {r : Option Value × zM} (h : zrun X n y pc ls st m = some r) : ∀ k, zrun X (n + k) y pc ls st m = some r
  | 0 => h
  | k + 1 => zrun_more _ _ _ _ _ _ _ (zrun_le h k)
theorem zrun_det {X : Nat × (Nat → Int32)} {n k y pc : Nat} {ls st : List Value} {m : zM} {r r' : Option Value × zM} (h : zrun X n y pc ls st m = some r) (h' : zrun X k y pc ls st m = some r') : r = r' := by
  have h1 := zrun_le h k
  have h2 := zrun_le h' n
  rw [Nat.add_comm] at h2
  exact Option.some.inj (h1.symm.trans h2)
noncomputable def zr (X : Nat × (Nat → Int32)) (y pc : Nat) (ls st : List Value) (m : zM) : Option (Option Value × zM) :=
  @dite _ (∃ r, ∃ n, zrun X n y pc ls st m = some r) (Classical.propDecidable _) (fun h => some (Classical.choose h)) (fun _ => none)
theorem zr_some {X : Nat × (Nat → Int32)} {y pc : Nat} {ls st : List Value} {m : zM} {r : Option Value × zM} : zr X y pc ls st m = some r ↔ ∃ n, zrun X n y pc ls st m = some r := by
  unfold zr
  constructor
  · intro h
    split at h
    next hx =>
      have h1 := Classical.choose_spec hx
      rw [Option.some.inj h] at h1
      exact h1
    next => cases h
  · rintro ⟨n, h⟩
    have hx : ∃ r, ∃ n, zrun X n y pc ls st m = some r := ⟨r, n, h⟩
    rw [dif_pos hx]
    obtain ⟨k, h1⟩ := Classical.choose_spec hx
    rw [zrun_det h1 h]
theorem zr_ext {X : Nat × (Nat → Int32)} {y pc y' pc' : Nat} {ls st ls' st' : List Value} {m m' : zM} (h : ∀ r, zr X y pc ls st m = some r ↔ zr X y' pc' ls' st' m' = some r) : zr X y pc ls st m = zr X y' pc' ls' st' m' := by
  cases e : zr X y pc ls st m with
  | some r => exact ((h r).mp e).symm
  | none =>
    cases e' : zr X y' pc' ls' st' m' with
    | none => rfl
    | some r => rw [(h r).mpr e'] at e; cases e
/-! the memory behind the two constructors: kinds, lengths, references -/
def zK0 : List Nat := [99, 12, 7, 9, 0, 4, 0, 0, 0, 0, 0, 0, 0, 10, 0, 0, 0, 3, 2, 7, 9, 0, 4, 0, 0, 0, 0, 0, 0, 0, 10, 0, 0, 0, 7, 9, 0, 4, 0, 0, 0, 0, 0, 0, 0, 10, 0, 0, 0, 7, 9, 0, 4, 0, 0, 0, 0, 0, 0, 0, 10, 0, 0, 0, 7, 9, 0, 4, 0, 0, 0, 0, 0, 0, 0, 10, 0, 0, 0, 7, 9, 0, 4, 0, 0, 0, 0, 0, 0, 0, 10, 0, 0, 0, 7, 9, 0, 4, 0, 0, 0, 0, 0, 0, 0, 10, 0, 0, 0, 8, 2, 1, 7, 9, 0, 4, 0, 0, 0, 0, 0, 0, 0, 10, 0, 0, 0, 7, 9, 0, 4, 0, 0, 0, 0, 0, 0, 0, 10, 0, 0, 0, 5, 0, 6, 4, 0, 0, 0, 0, 0, 0, 0, 11, 1, 0, 0, 0, 0, 0, 13, 0, 0, 0, 0, 1, 0, 1, 0, 1, 0, 0, 0]
def zL0 : List Nat := [0, 8, 4, 2, 60, 8, 20, 20, 20, 20, 20, 20, 120, 3, 360, 6, 5, 3, 6, 4, 2, 60, 8, 20, 20, 20, 20, 20, 20, 120, 3, 360, 6, 5, 4, 2, 60, 8, 20, 20, 20, 20, 20, 20, 120, 3, 360, 6, 5, 4, 2, 60, 8, 20, 20, 20, 20, 20, 20, 120, 3, 360, 6, 5, 4, 2, 60, 8, 20, 20, 20, 20, 20, 20, 120, 3, 360, 6, 5, 4, 2, 60, 8, 20, 20, 20, 20, 20, 20, 120, 3, 360, 6, 5, 4, 2, 60, 8, 20, 20, 20, 20, 20, 20, 120, 3, 360, 6, 5, 2, 2, 2, 4, 2, 60, 8, 20, 20, 20, 20, 20, 20, 120, 3, 360, 6, 5, 4, 2, 60, 8, 20, 20, 20, 20, 20, 20, 120, 3, 360, 6, 5, 2, 60, 2, 8, 20, 20, 20, 20, 20, 20, 120, 5, 20, 61, 61, 180, 20, 61, 19, 675, 675, 4050, 1350, 2, 60, 20, 180, 20, 61, 61, 192]
def zR0 : List (List Nat) := [[], [2, 17, 109, 142, 144, 153, 158, 159], [3, 5, 13, 16], [4, 0], List.replicate 60 0, [6, 7, 8, 9, 10, 11, 12, 0], List.replicate 20 0, List.replicate 20 0, List.replicate 20 0, List.replicate 20 0, List.replicate 20 0, List.replicate 20 0, List.replicate 120 0, [14, 15, 0], List.replicate 360 0, List.replicate 6 0, List.replicate 5 0, [18, 0, 0], [19, 34, 49, 64, 79, 94], [20, 22, 30, 33], [21, 0], List.replicate 60 0, [23, 24, 25, 26, 27, 28, 29, 0], List.replicate 20 0, List.replicate 20 0, List.replicate 20 0, List.replicate 20 0, List.replicate 20 0, List.replicate 20 0, List.replicate 120 0, [31, 32, 0], List.replicate 360 0, List.replicate 6 0, List.replicate 5 0, [35, 37, 45, 48], [36, 0], List.replicate 60 0, [38, 39, 40, 41, 42, 43, 44, 0], List.replicate 20 0, List.replicate 20 0, List.replicate 20 0, List.replicate 20 0, List.replicate 20 0, List.replicate 20 0, List.replicate 120 0, [46, 47, 0], List.replicate 360 0, List.replicate 6 0, List.replicate 5 0, [50, 52, 60, 63], [51, 0], List.replicate 60 0, [53, 54, 55, 56, 57, 58, 59, 0], List.replicate 20 0, List.replicate 20 0, List.replicate 20 0, List.replicate 20 0, List.replicate 20 0, List.replicate 20 0, List.replicate 120 0, [61, 62, 0], List.replicate 360 0, List.replicate 6 0, List.replicate 5 0, [65, 67, 75, 78], [66, 0], List.replicate 60 0, [68, 69, 70, 71, 72, 73, 74, 0], List.replicate 20 0, List.replicate 20 0, List.replicate 20 0, List.replicate 20 0, List.replicate 20 0, List.replicate 20 0, List.replicate 120 0, [76, 77, 0], List.replicate 360 0, List.replicate 6 0, List.replicate 5 0, [80, 82, 90, 93], [81, 0], List.replicate 60 0, [83, 84, 85, 86, 87, 88, 89, 0], List.replicate 20 0, List.replicate 20 0, List.replicate 20 0, List.replicate 20 0, List.replicate 20 0, List.replicate 20 0, List.replicate 120 0, [91, 92, 0], List.replicate 360 0, List.replicate 6 0, List.replicate 5 0, [95, 97, 105, 108], [96, 0], List.replicate 60 0, [98, 99, 100, 101, 102, 103, 104, 0], List.replicate 20 0, List.replicate 20 0, List.replicate 20 0, List.replicate 20 0, List.replicate 20 0, List.replicate 20 0, List.replicate 120 0, [106, 107, 0], List.replicate 360 0, List.replicate 6 0, List.replicate 5 0, [110, 111], [112, 127], List.replicate 2 0, [113, 115, 123, 126], [114, 0], List.replicate 60 0, [116, 117, 118, 119, 120, 121, 122, 0], List.replicate 20 0, List.replicate 20 0, List.replicate 20 0, List.replicate 20 0, List.replicate 20 0, List.replicate 20 0, List.replicate 120 0, [124, 125, 0], List.replicate 360 0, List.replicate 6 0, List.replicate 5 0, [128, 130, 138, 141], [129, 0], List.replicate 60 0, [131, 132, 133, 134, 135, 136, 137, 0], List.replicate 20 0, List.replicate 20 0, List.replicate 20 0, List.replicate 20 0, List.replicate 20 0, List.replicate 20 0, List.replicate 120 0, [139, 140, 0], List.replicate 360 0, List.replicate 6 0, List.replicate 5 0, [143, 0], List.replicate 60 0, [145, 0], [146, 147, 148, 149, 150, 151, 152, 0], List.replicate 20 0, List.replicate 20 0, List.replicate 20 0, List.replicate 20 0, List.replicate 20 0, List.replicate 20 0, List.replicate 120 0, [154, 155, 156, 157, 0], List.replicate 20 0, List.replicate 61 0, List.replicate 61 0, List.replicate 180 0, List.replicate 20 0, List.replicate 61 0, [0, 161, 162, 163, 0, 164, 165, 166, 0, 167, 168, 0, 169, 170, 171, 0, 0, 172, 0], List.replicate 675 0, List.replicate 675 0, List.replicate 4050 0, List.replicate 1350 0, List.replicate 2 0, List.replicate 60 0, List.replicate 20 0, List.replicate 180 0, List.replicate 20 0, List.replicate 61 0, List.replicate 61 0, List.replicate 192 0]
def zk (I : Nat → Nat → Int32) : zM := (14300, zK0, zL0, zR0, I)
section ZE
variable {X : Nat × (Nat → Int32)} {y pc n : Nat} {ls st : List Value} {m : zM} {a b w : Nat} {I : Nat → Nat → Int32}
theorem zr_go {q : Nat × List Value × List Value × zM} (h : zact X y pc ls st m = some (.inl q)) : zr X y pc ls st m = zr X y q.1 q.2.1 q.2.2.1 q.2.2.2 := by
  apply zr_ext
  intro r
  rw [zr_some, zr_some]
  constructor
  · rintro ⟨n, hn⟩
    cases n with
    | zero => cases hn
    | succ n =>
      unfold zrun at hn
      rw [h] at hn
      exact ⟨n, hn⟩
  · rintro ⟨n, hn⟩
    refine ⟨n + 1, ?_⟩
    unfold zrun
    rw [h]
    exact hn
theorem zr_ret {q : Option Value × zM} (h : zact X y pc ls st m = some (.inr (.inl q))) : zr X y pc ls st m = some q := by
  rw [zr_some]
  refine ⟨1, ?_⟩
  unfold zrun
  rw [h]
def zcb (x : Option (Option Value × zM)) (f : Option Value → zM → Option (Option Value × zM)) : Option (Option Value × zM) := match x with
  | some q => f q.1 q.2
  | none => none
theorem zcb_some {v : Option Value} {m : zM} {f : Option Value → zM → Option (Option Value × zM)} : zcb (some (v, m)) f = f v m := rfl
theorem zr_cl {k : Nat} {As rest : List Value} (h : zact X y pc ls st m = some (.inr (.inr (k, As, rest)))) : zr X y pc ls st m = zcb (zr X k 0 (zEn k As) [] m) (fun v m1 => zr X y (pc + 3) ls (v.toList ++ rest) m1) := by
  cases e : zr X k 0 (zEn k As) [] m with
  | some q =>
    show _ = zr X y (pc + 3) ls (q.1.toList ++ rest) q.2
    obtain ⟨i, hi⟩ := zr_some.mp e
    apply zr_ext
    intro r
    rw [zr_some, zr_some]
    constructor
    · rintro ⟨n, hn⟩
      cases n with
      | zero => cases hn
      | succ n =>
        unfold zrun at hn
        rw [h] at hn
        dsimp only at hn
        split at hn
        next v e2 =>
          rw [zrun_det e2 hi] at hn
          exact ⟨n, hn⟩
        next => cases hn
    · rintro ⟨n, hn⟩
      refine ⟨i + n + 1, ?_⟩
      unfold zrun
      rw [h]
      dsimp only
      rw [zrun_le hi n]
      have := zrun_le hn i
      rw [Nat.add_comm] at this
      exact this
  | none =>
    show _ = none
    cases e' : zr X y pc ls st m with
    | none => rfl
    | some r =>
      exfalso
      obtain ⟨n, hn⟩ := zr_some.mp e'
      cases n with
      | zero => cases hn
      | succ n =>
        unfold zrun at hn
        rw [h] at hn
        dsimp only at hn
        split at hn
        next v e2 =>
          have := zr_some.mpr ⟨n, e2⟩
          rw [e] at this
          cases this
        next => cases hn
theorem zact_eq {r : zRow} (h : zT y pc = some r) : zact X y pc ls st m = zins X y r pc ls st m := by
  unfold zact
  rw [h]

/-! a step of each kind -/
def zs1 (I : Nat → Nat → Int32) (t k : Nat) (x : Int32) : Nat → Nat → Int32 := zup I t (upd (I t) k x)
def zs2 (I : Nat → Nat → Int32) (s d j k z : Nat) : Nat → Nat → Int32 := zup I d (va_cpy (I s) (I d) j k z)
def zx (i : Int32) : Nat := i.toNatClampNeg
def zfI (t c k : Nat) : Bool := decide (t ≠ 0 ∧ zK0.getD t 50 = c + 3 ∧ k < zL0.getD t 0 ∧ zFk c k ≠ 2)
def zfR (t c k u : Nat) : Bool := decide (t ≠ 0 ∧ zK0.getD t 50 = c + 3 ∧ k < zL0.getD t 0 ∧ zFk c k = 2 ∧ (zR0.getD t []).getD k 0 = u ∧ u ≠ 0)
def zaI (t kd n : Nat) : Bool := decide (t ≠ 0 ∧ zK0.getD t 50 = kd ∧ zL0.getD t 0 = n)
theorem zr_iload_n {k : Fin 4} {x : Int32} (hT : zT y pc = some (.iload_n k, 1, a, b, w)) (hl : ls[(k : Nat)]? = some (.int x)) : zr X y pc ls st m = zr X y (pc + 1) ls (.int x :: st) m := by
  refine zr_go (q := (pc + 1, ls, .int x :: st, m)) ?_
  rw [zact_eq hT]
  show zld (k : Nat) pc 1 ls st m = _
  unfold zld
  rw [hl]
  rfl
theorem zr_iload {k : Nat} {x : Int32} (hT : zT y pc = some (.iload k, 2, a, b, w)) (hl : ls[(k : Nat)]? = some (.int x)) : zr X y pc ls st m = zr X y (pc + 2) ls (.int x :: st) m := by
  refine zr_go (q := (pc + 2, ls, .int x :: st, m)) ?_
  rw [zact_eq hT]
  show zld (k : Nat) pc 2 ls st m = _
  unfold zld
  rw [hl]
  rfl
theorem zr_lload_n {k : Fin 4} {x : Int64} (hT : zT y pc = some (.lload_n k, 1, a, b, w)) (hl : ls[(k : Nat)]? = some (.long x)) : zr X y pc ls st m = zr X y (pc + 1) ls (.long x :: st) m := by
  refine zr_go (q := (pc + 1, ls, .long x :: st, m)) ?_
  rw [zact_eq hT]
  show zldl (k : Nat) pc 1 ls st m = _
  unfold zldl
  rw [hl]
  rfl
theorem zr_lload {k : Nat} {x : Int64} (hT : zT y pc = some (.lload k, 2, a, b, w)) (hl : ls[(k : Nat)]? = some (.long x)) : zr X y pc ls st m = zr X y (pc + 2) ls (.long x :: st) m := by
  refine zr_go (q := (pc + 2, ls, .long x :: st, m)) ?_
  rw [zact_eq hT]
  show zldl (k : Nat) pc 2 ls st m = _
  unfold zldl
  rw [hl]
  rfl
theorem zr_aload_n {k : Fin 4} {x : Nat} (hT : zT y pc = some (.aload_n k, 1, a, b, w)) (hl : ls[(k : Nat)]? = some (.ref x)) : zr X y pc ls st m = zr X y (pc + 1) ls (.ref x :: st) m := by
  refine zr_go (q := (pc + 1, ls, .ref x :: st, m)) ?_
  rw [zact_eq hT]
  show zlda (k : Nat) pc 1 ls st m = _
  unfold zlda
  rw [hl]
  rfl
theorem zr_aload {k : Nat} {x : Nat} (hT : zT y pc = some (.aload k, 2, a, b, w)) (hl : ls[(k : Nat)]? = some (.ref x)) : zr X y pc ls st m = zr X y (pc + 2) ls (.ref x :: st) m := by
  refine zr_go (q := (pc + 2, ls, .ref x :: st, m)) ?_
  rw [zact_eq hT]
  show zlda (k : Nat) pc 2 ls st m = _
  unfold zlda
  rw [hl]
  rfl
theorem zr_istore_n {k : Fin 4} {x : Int32} {ls1 : List Value} (hT : zT y pc = some (.istore_n k, 1, a, b, w)) (h1 : (decide ((k : Nat) < ls.length) && zfree ls k) = true) (hs : ls.set (k : Nat) (.int x) = ls1) : zr X y pc ls (.int x :: st) m = zr X y (pc + 1) ls1 st m := by
  subst hs
  refine zr_go (q := (pc + 1, ls.set (k : Nat) (.int x), st, m)) ?_
  rw [zact_eq hT]
  simp only [Bool.and_eq_true, decide_eq_true_eq] at h1
  show zst (k : Nat) pc 1 ls (.int x :: st) m = _
  unfold zst
  dsimp only
  rw [if_pos h1]
  rfl
theorem zr_istore {k : Nat} {x : Int32} {ls1 : List Value} (hT : zT y pc = some (.istore k, 2, a, b, w)) (h1 : (decide ((k : Nat) < ls.length) && zfree ls k) = true) (hs : ls.set (k : Nat) (.int x) = ls1) : zr X y pc ls (.int x :: st) m = zr X y (pc + 2) ls1 st m := by
  subst hs
  refine zr_go (q := (pc + 2, ls.set (k : Nat) (.int x), st, m)) ?_
  rw [zact_eq hT]
  simp only [Bool.and_eq_true, decide_eq_true_eq] at h1
  show zst (k : Nat) pc 2 ls (.int x :: st) m = _
  unfold zst
  dsimp only
  rw [if_pos h1]
  rfl
theorem zr_astore_n {k : Fin 4} {x : Nat} {ls1 : List Value} (hT : zT y pc = some (.astore_n k, 1, a, b, w)) (h1 : (decide ((k : Nat) < ls.length) && zfree ls k) = true) (hs : ls.set (k : Nat) (.ref x) = ls1) : zr X y pc ls (.ref x :: st) m = zr X y (pc + 1) ls1 st m := by
  subst hs
  refine zr_go (q := (pc + 1, ls.set (k : Nat) (.ref x), st, m)) ?_
  rw [zact_eq hT]
  simp only [Bool.and_eq_true, decide_eq_true_eq] at h1
  show zsta (k : Nat) pc 1 ls (.ref x :: st) m = _
  unfold zsta
  dsimp only
  rw [if_pos h1]
  rfl
theorem zr_astore {k : Nat} {x : Nat} {ls1 : List Value} (hT : zT y pc = some (.astore k, 2, a, b, w)) (h1 : (decide ((k : Nat) < ls.length) && zfree ls k) = true) (hs : ls.set (k : Nat) (.ref x) = ls1) : zr X y pc ls (.ref x :: st) m = zr X y (pc + 2) ls1 st m := by
  subst hs
  refine zr_go (q := (pc + 2, ls.set (k : Nat) (.ref x), st, m)) ?_
  rw [zact_eq hT]
  simp only [Bool.and_eq_true, decide_eq_true_eq] at h1
  show zsta (k : Nat) pc 2 ls (.ref x :: st) m = _
  unfold zsta
  dsimp only
  rw [if_pos h1]
  rfl
theorem zr_lstore_n {k : Fin 4} {x : Int64} {ls1 : List Value} (hT : zT y pc = some (.lstore_n k, 1, a, b, w)) (h1 : (decide ((k : Nat) + 1 < ls.length) && zfree ls k) = true) (hs : (ls.set (k : Nat) (.long x)).set ((k : Nat) + 1) .null = ls1) : zr X y pc ls (.long x :: st) m = zr X y (pc + 1) ls1 st m := by
  subst hs
  refine zr_go (q := (pc + 1, (ls.set (k : Nat) (.long x)).set ((k : Nat) + 1) .null, st, m)) ?_
  rw [zact_eq hT]
  simp only [Bool.and_eq_true, decide_eq_true_eq] at h1
  show zstl (k : Nat) pc 1 ls (.long x :: st) m = _
  unfold zstl
  dsimp only
  rw [if_pos h1]
  rfl
theorem zr_lstore {k : Nat} {x : Int64} {ls1 : List Value} (hT : zT y pc = some (.lstore k, 2, a, b, w)) (h1 : (decide ((k : Nat) + 1 < ls.length) && zfree ls k) = true) (hs : (ls.set (k : Nat) (.long x)).set ((k : Nat) + 1) .null = ls1) : zr X y pc ls (.long x :: st) m = zr X y (pc + 2) ls1 st m := by
  subst hs
  refine zr_go (q := (pc + 2, (ls.set (k : Nat) (.long x)).set ((k : Nat) + 1) .null, st, m)) ?_
  rw [zact_eq hT]
  simp only [Bool.and_eq_true, decide_eq_true_eq] at h1
  show zstl (k : Nat) pc 2 ls (.long x :: st) m = _
  unfold zstl
  dsimp only
  rw [if_pos h1]
  rfl
theorem zr_iinc {k : Nat} {d : Int} {x z : Int32} {ls1 : List Value} (hT : zT y pc = some (.iinc k d, 3, a, b, w)) (hl : ls[k]? = some (.int x)) (h1 : zfree ls k = true) (hz : x + Int32.ofInt d = z) (hs : ls.set k (.int z) = ls1) : zr X y pc ls st m = zr X y (pc + 3) ls1 st m := by
  subst hs
  subst hz
  refine zr_go (q := (pc + 3, ls.set k (.int (x + Int32.ofInt d)), st, m)) ?_
  rw [zact_eq hT]
  show zinc k d pc ls st m = _
  unfold zinc
  rw [hl]
  dsimp only
  rw [if_pos h1]
  rfl
theorem zr_iconst {i : Int} {x : Int32} (hT : zT y pc = some (.iconst i, 1, a, b, w)) (hv : Int32.ofInt i = x) : zr X y pc ls st m = zr X y (pc + 1) ls (.int x :: st) m := by
  subst hv
  refine zr_go (q := (pc + 1, ls, .int (Int32.ofInt i) :: st, m)) ?_
  rw [zact_eq hT]
  rfl
theorem zr_bipush {i : Int} {x : Int32} (hT : zT y pc = some (.bipush i, 2, a, b, w)) (hv : (Int8.ofInt i).toInt32 = x) : zr X y pc ls st m = zr X y (pc + 2) ls (.int x :: st) m := by
  subst hv
  refine zr_go (q := (pc + 2, ls, .int ((Int8.ofInt i).toInt32) :: st, m)) ?_
  rw [zact_eq hT]
  rfl
theorem zr_sipush {i : Int} {x : Int32} (hT : zT y pc = some (.sipush i, 3, a, b, w)) (hv : (Int16.ofInt i).toInt32 = x) : zr X y pc ls st m = zr X y (pc + 3) ls (.int x :: st) m := by
  subst hv
  refine zr_go (q := (pc + 3, ls, .int ((Int16.ofInt i).toInt32) :: st, m)) ?_
  rw [zact_eq hT]
  rfl
theorem zr_lconst {i : Fin 2} {x : Int64} (hT : zT y pc = some (.lconst i, 1, a, b, w)) (hv : Int64.ofNat (i : Nat) = x) : zr X y pc ls st m = zr X y (pc + 1) ls (.long x :: st) m := by
  subst hv
  refine zr_go (q := (pc + 1, ls, .long (Int64.ofNat (i : Nat)) :: st, m)) ?_
  rw [zact_eq hT]
  rfl
theorem zr_ldc2 {i : Nat} {x : Int64} (hT : zT y pc = some (.ldc2_w i, 3, a, b, w)) (hv : Int64.ofNat a = x) : zr X y pc ls st m = zr X y (pc + 3) ls (.long x :: st) m := by
  subst hv
  refine zr_go (q := (pc + 3, ls, .long (Int64.ofNat a) :: st, m)) ?_
  rw [zact_eq hT]
  rfl
theorem zr_iadd {u v : Int32} (hT : zT y pc = some (.iadd, 1, a, b, w))  : zr X y pc ls (.int v :: .int u :: st) m = zr X y (pc + 1) ls (.int (u + v) :: st) m := by
  refine zr_go (q := (pc + 1, ls, .int (u + v) :: st, m)) ?_
  rw [zact_eq hT]
  rfl
theorem zr_isub {u v : Int32} (hT : zT y pc = some (.isub, 1, a, b, w))  : zr X y pc ls (.int v :: .int u :: st) m = zr X y (pc + 1) ls (.int (u - v) :: st) m := by
  refine zr_go (q := (pc + 1, ls, .int (u - v) :: st, m)) ?_
  rw [zact_eq hT]
  rfl
theorem zr_imul {u v : Int32} (hT : zT y pc = some (.imul, 1, a, b, w))  : zr X y pc ls (.int v :: .int u :: st) m = zr X y (pc + 1) ls (.int (u * v) :: st) m := by
  refine zr_go (q := (pc + 1, ls, .int (u * v) :: st, m)) ?_
  rw [zact_eq hT]
  rfl
theorem zr_iand {u v : Int32} (hT : zT y pc = some (.iand, 1, a, b, w))  : zr X y pc ls (.int v :: .int u :: st) m = zr X y (pc + 1) ls (.int (u &&& v) :: st) m := by
  refine zr_go (q := (pc + 1, ls, .int (u &&& v) :: st, m)) ?_
  rw [zact_eq hT]
  rfl
theorem zr_ixor {u v : Int32} (hT : zT y pc = some (.ixor, 1, a, b, w))  : zr X y pc ls (.int v :: .int u :: st) m = zr X y (pc + 1) ls (.int (u ^^^ v) :: st) m := by
  refine zr_go (q := (pc + 1, ls, .int (u ^^^ v) :: st, m)) ?_
  rw [zact_eq hT]
  rfl
theorem zr_idiv {u v : Int32} (hT : zT y pc = some (.idiv, 1, a, b, w)) (hv : v ≠ 0) : zr X y pc ls (.int v :: .int u :: st) m = zr X y (pc + 1) ls (.int (u / v) :: st) m := by
  refine zr_go (q := (pc + 1, ls, .int (u / v) :: st, m)) ?_
  rw [zact_eq hT]
  show (if v = 0 then none else zgo (pc + 1) ls (.int (u / v) :: st) m) = _
  rw [if_neg hv]
  rfl
theorem zr_irem {u v : Int32} (hT : zT y pc = some (.irem, 1, a, b, w)) (hv : v ≠ 0) : zr X y pc ls (.int v :: .int u :: st) m = zr X y (pc + 1) ls (.int (u - u / v * v) :: st) m := by
  refine zr_go (q := (pc + 1, ls, .int (u - u / v * v) :: st, m)) ?_
  rw [zact_eq hT]
  show (if v = 0 then none else zgo (pc + 1) ls (.int (u - u / v * v) :: st) m) = _
  rw [if_neg hv]
  rfl
theorem zr_i2l {u : Int32} (hT : zT y pc = some (.i2l, 1, a, b, w))  : zr X y pc ls (.int u :: st) m = zr X y (pc + 1) ls (.long u.toInt64 :: st) m := by
  refine zr_go (q := (pc + 1, ls, .long u.toInt64 :: st, m)) ?_
  rw [zact_eq hT]
  rfl
theorem zr_l2i {u : Int64} (hT : zT y pc = some (.l2i, 1, a, b, w))  : zr X y pc ls (.long u :: st) m = zr X y (pc + 1) ls (.int u.toInt32 :: st) m := by
  refine zr_go (q := (pc + 1, ls, .int u.toInt32 :: st, m)) ?_
  rw [zact_eq hT]
  rfl
theorem zr_land {u v : Int64} (hT : zT y pc = some (.land, 1, a, b, w))  : zr X y pc ls (.long v :: .long u :: st) m = zr X y (pc + 1) ls (.long (u &&& v) :: st) m := by
  refine zr_go (q := (pc + 1, ls, .long (u &&& v) :: st, m)) ?_
  rw [zact_eq hT]
  rfl
theorem zr_lor {u v : Int64} (hT : zT y pc = some (.lor, 1, a, b, w))  : zr X y pc ls (.long v :: .long u :: st) m = zr X y (pc + 1) ls (.long (u ||| v) :: st) m := by
  refine zr_go (q := (pc + 1, ls, .long (u ||| v) :: st, m)) ?_
  rw [zact_eq hT]
  rfl
theorem zr_lcmp {u v : Int64} (hT : zT y pc = some (.lcmp, 1, a, b, w))  : zr X y pc ls (.long v :: .long u :: st) m = zr X y (pc + 1) ls (.int (lg_cmp u v) :: st) m := by
  refine zr_go (q := (pc + 1, ls, .int (lg_cmp u v) :: st, m)) ?_
  rw [zact_eq hT]
  rfl
theorem zr_lshl {u : Int64} {v : Int32} (hT : zT y pc = some (.lshl, 1, a, b, w))  : zr X y pc ls (.int v :: .long u :: st) m = zr X y (pc + 1) ls (.long (u <<< (v.toInt64 &&& 63)) :: st) m := by
  refine zr_go (q := (pc + 1, ls, .long (u <<< (v.toInt64 &&& 63)) :: st, m)) ?_
  rw [zact_eq hT]
  rfl
theorem zr_lushr {u : Int64} {v : Int32} (hT : zT y pc = some (.lushr, 1, a, b, w))  : zr X y pc ls (.int v :: .long u :: st) m = zr X y (pc + 1) ls (.long ((u.toUInt64 >>> (v.toInt64.toUInt64 &&& Int64.toUInt64 63)).toInt64) :: st) m := by
  refine zr_go (q := (pc + 1, ls, .long ((u.toUInt64 >>> (v.toInt64.toUInt64 &&& Int64.toUInt64 63)).toInt64) :: st, m)) ?_
  rw [zact_eq hT]
  rfl
theorem zr_dup {v : Value} (hT : zT y pc = some (.dup, 1, a, b, w)) (hv : v.category = 1) : zr X y pc ls (v :: st) m = zr X y (pc + 1) ls (v :: v :: st) m := by
  refine zr_go (q := (pc + 1, ls, v :: v :: st, m)) ?_
  rw [zact_eq hT]
  show (if v.category = 1 then zgo (pc + 1) ls (v :: v :: st) m else none) = _
  rw [if_pos hv]
  rfl
theorem zr_dup2 {v v2 : Value} (hT : zT y pc = some (.dup2, 1, a, b, w)) (hv : v.category = 1 ∧ v2.category = 1) : zr X y pc ls (v :: v2 :: st) m = zr X y (pc + 1) ls (v :: v2 :: v :: v2 :: st) m := by
  refine zr_go (q := (pc + 1, ls, v :: v2 :: v :: v2 :: st, m)) ?_
  rw [zact_eq hT]
  show (if v.category = 1 ∧ v2.category = 1 then zgo (pc + 1) ls (v :: v2 :: v :: v2 :: st) m else none) = _
  rw [if_pos hv]
  rfl
theorem zr_pop {v : Value} (hT : zT y pc = some (.pop, 1, a, b, w)) (hv : v.category = 1) : zr X y pc ls (v :: st) m = zr X y (pc + 1) ls st m := by
  refine zr_go (q := (pc + 1, ls, st, m)) ?_
  rw [zact_eq hT]
  show (if v.category = 1 then zgo (pc + 1) ls st m else none) = _
  rw [if_pos hv]
  rfl
theorem zr_goto {off : Int} {tgt : Nat} (hT : zT y pc = some (.goto off, 3, a, b, w)) (ho : (pc : Int) + off = (tgt : Int)) : zr X y pc ls st m = zr X y tgt ls st m := by
  refine zr_go (q := (tgt, ls, st, m)) ?_
  rw [zact_eq hT]
  show (if 0 ≤ (pc : Int) + off then zgo ((pc : Int) + off).toNat ls st m else none) = _
  rw [ho, if_pos (Int.natCast_nonneg tgt)]
  rfl
theorem zr_if_eq {u : Int32} {off : Int} {tgt : Nat} (hT : zT y pc = some (.ifCond .eq off, 3, a, b, w)) (ho : (pc : Int) + off = (tgt : Int)) : zr X y pc ls (.int u :: st) m = if u = 0 then zr X y tgt ls st m else zr X y (pc + 3) ls st m := by
  have key : zact X y pc ls (.int u :: st) m = some (.inl (cond (zcmp .eq u 0) tgt (pc + 3), ls, st, m)) := by
    rw [zact_eq hT]
    show zbr pc ls m off (zcmp .eq u 0) st = _
    unfold zbr
    rw [ho, if_pos (Int.natCast_nonneg tgt)]
    rfl
  rw [zr_go key]
  by_cases h : u = 0
  · rw [if_pos h, show zcmp .eq u 0 = true from decide_eq_true h]
    rfl
  · rw [if_neg h, show zcmp .eq u 0 = false from decide_eq_false h]
    rfl
theorem zr_ic_eq {u v : Int32} {off : Int} {tgt : Nat} (hT : zT y pc = some (.if_icmp .eq off, 3, a, b, w)) (ho : (pc : Int) + off = (tgt : Int)) : zr X y pc ls (.int v :: .int u :: st) m = if u = v then zr X y tgt ls st m else zr X y (pc + 3) ls st m := by
  have key : zact X y pc ls (.int v :: .int u :: st) m = some (.inl (cond (zcmp .eq u v) tgt (pc + 3), ls, st, m)) := by
    rw [zact_eq hT]
    show zbr pc ls m off (zcmp .eq u v) st = _
    unfold zbr
    rw [ho, if_pos (Int.natCast_nonneg tgt)]
    rfl
  rw [zr_go key]
  by_cases h : u = v
  · rw [if_pos h, show zcmp .eq u v = true from decide_eq_true h]
    rfl
  · rw [if_neg h, show zcmp .eq u v = false from decide_eq_false h]
    rfl
theorem zr_if_ne {u : Int32} {off : Int} {tgt : Nat} (hT : zT y pc = some (.ifCond .ne off, 3, a, b, w)) (ho : (pc : Int) + off = (tgt : Int)) : zr X y pc ls (.int u :: st) m = if ¬ u = 0 then zr X y tgt ls st m else zr X y (pc + 3) ls st m := by
  have key : zact X y pc ls (.int u :: st) m = some (.inl (cond (zcmp .ne u 0) tgt (pc + 3), ls, st, m)) := by
    rw [zact_eq hT]
    show zbr pc ls m off (zcmp .ne u 0) st = _
    unfold zbr
    rw [ho, if_pos (Int.natCast_nonneg tgt)]
    rfl
  rw [zr_go key]
  by_cases h : ¬ u = 0
  · rw [if_pos h, show zcmp .ne u 0 = true from decide_eq_true h]
    rfl
  · rw [if_neg h, show zcmp .ne u 0 = false from decide_eq_false h]
    rfl
theorem zr_ic_ne {u v : Int32} {off : Int} {tgt : Nat} (hT : zT y pc = some (.if_icmp .ne off, 3, a, b, w)) (ho : (pc : Int) + off = (tgt : Int)) : zr X y pc ls (.int v :: .int u :: st) m = if ¬ u = v then zr X y tgt ls st m else zr X y (pc + 3) ls st m := by
  have key : zact X y pc ls (.int v :: .int u :: st) m = some (.inl (cond (zcmp .ne u v) tgt (pc + 3), ls, st, m)) := by
    rw [zact_eq hT]
    show zbr pc ls m off (zcmp .ne u v) st = _
    unfold zbr
    rw [ho, if_pos (Int.natCast_nonneg tgt)]
    rfl
  rw [zr_go key]
  by_cases h : ¬ u = v
  · rw [if_pos h, show zcmp .ne u v = true from decide_eq_true h]
    rfl
  · rw [if_neg h, show zcmp .ne u v = false from decide_eq_false h]
    rfl
theorem zr_if_lt {u : Int32} {off : Int} {tgt : Nat} (hT : zT y pc = some (.ifCond .lt off, 3, a, b, w)) (ho : (pc : Int) + off = (tgt : Int)) : zr X y pc ls (.int u :: st) m = if u < 0 then zr X y tgt ls st m else zr X y (pc + 3) ls st m := by
  have key : zact X y pc ls (.int u :: st) m = some (.inl (cond (zcmp .lt u 0) tgt (pc + 3), ls, st, m)) := by
    rw [zact_eq hT]
    show zbr pc ls m off (zcmp .lt u 0) st = _
    unfold zbr
    rw [ho, if_pos (Int.natCast_nonneg tgt)]
    rfl
  rw [zr_go key]
  by_cases h : u < 0
  · rw [if_pos h, show zcmp .lt u 0 = true from decide_eq_true h]
    rfl
  · rw [if_neg h, show zcmp .lt u 0 = false from decide_eq_false h]
    rfl
theorem zr_ic_lt {u v : Int32} {off : Int} {tgt : Nat} (hT : zT y pc = some (.if_icmp .lt off, 3, a, b, w)) (ho : (pc : Int) + off = (tgt : Int)) : zr X y pc ls (.int v :: .int u :: st) m = if u < v then zr X y tgt ls st m else zr X y (pc + 3) ls st m := by
  have key : zact X y pc ls (.int v :: .int u :: st) m = some (.inl (cond (zcmp .lt u v) tgt (pc + 3), ls, st, m)) := by
    rw [zact_eq hT]
    show zbr pc ls m off (zcmp .lt u v) st = _
    unfold zbr
    rw [ho, if_pos (Int.natCast_nonneg tgt)]
    rfl
  rw [zr_go key]
  by_cases h : u < v
  · rw [if_pos h, show zcmp .lt u v = true from decide_eq_true h]
    rfl
  · rw [if_neg h, show zcmp .lt u v = false from decide_eq_false h]
    rfl
theorem zr_if_ge {u : Int32} {off : Int} {tgt : Nat} (hT : zT y pc = some (.ifCond .ge off, 3, a, b, w)) (ho : (pc : Int) + off = (tgt : Int)) : zr X y pc ls (.int u :: st) m = if 0 ≤ u then zr X y tgt ls st m else zr X y (pc + 3) ls st m := by
  have key : zact X y pc ls (.int u :: st) m = some (.inl (cond (zcmp .ge u 0) tgt (pc + 3), ls, st, m)) := by
    rw [zact_eq hT]
    show zbr pc ls m off (zcmp .ge u 0) st = _
    unfold zbr
    rw [ho, if_pos (Int.natCast_nonneg tgt)]
    rfl
  rw [zr_go key]
  by_cases h : 0 ≤ u
  · rw [if_pos h, show zcmp .ge u 0 = true from decide_eq_true h]
    rfl
  · rw [if_neg h, show zcmp .ge u 0 = false from decide_eq_false h]
    rfl
theorem zr_ic_ge {u v : Int32} {off : Int} {tgt : Nat} (hT : zT y pc = some (.if_icmp .ge off, 3, a, b, w)) (ho : (pc : Int) + off = (tgt : Int)) : zr X y pc ls (.int v :: .int u :: st) m = if v ≤ u then zr X y tgt ls st m else zr X y (pc + 3) ls st m := by
  have key : zact X y pc ls (.int v :: .int u :: st) m = some (.inl (cond (zcmp .ge u v) tgt (pc + 3), ls, st, m)) := by
    rw [zact_eq hT]
    show zbr pc ls m off (zcmp .ge u v) st = _
    unfold zbr
    rw [ho, if_pos (Int.natCast_nonneg tgt)]
    rfl
  rw [zr_go key]
  by_cases h : v ≤ u
  · rw [if_pos h, show zcmp .ge u v = true from decide_eq_true h]
    rfl
  · rw [if_neg h, show zcmp .ge u v = false from decide_eq_false h]
    rfl
theorem zr_if_gt {u : Int32} {off : Int} {tgt : Nat} (hT : zT y pc = some (.ifCond .gt off, 3, a, b, w)) (ho : (pc : Int) + off = (tgt : Int)) : zr X y pc ls (.int u :: st) m = if 0 < u then zr X y tgt ls st m else zr X y (pc + 3) ls st m := by
  have key : zact X y pc ls (.int u :: st) m = some (.inl (cond (zcmp .gt u 0) tgt (pc + 3), ls, st, m)) := by
    rw [zact_eq hT]
    show zbr pc ls m off (zcmp .gt u 0) st = _
    unfold zbr
    rw [ho, if_pos (Int.natCast_nonneg tgt)]
    rfl
  rw [zr_go key]
  by_cases h : 0 < u
  · rw [if_pos h, show zcmp .gt u 0 = true from decide_eq_true h]
    rfl
  · rw [if_neg h, show zcmp .gt u 0 = false from decide_eq_false h]
    rfl
theorem zr_ic_gt {u v : Int32} {off : Int} {tgt : Nat} (hT : zT y pc = some (.if_icmp .gt off, 3, a, b, w)) (ho : (pc : Int) + off = (tgt : Int)) : zr X y pc ls (.int v :: .int u :: st) m = if v < u then zr X y tgt ls st m else zr X y (pc + 3) ls st m := by
  have key : zact X y pc ls (.int v :: .int u :: st) m = some (.inl (cond (zcmp .gt u v) tgt (pc + 3), ls, st, m)) := by
    rw [zact_eq hT]
    show zbr pc ls m off (zcmp .gt u v) st = _
    unfold zbr
    rw [ho, if_pos (Int.natCast_nonneg tgt)]
    rfl
  rw [zr_go key]
  by_cases h : v < u
  · rw [if_pos h, show zcmp .gt u v = true from decide_eq_true h]
    rfl
  · rw [if_neg h, show zcmp .gt u v = false from decide_eq_false h]
    rfl
theorem zr_if_le {u : Int32} {off : Int} {tgt : Nat} (hT : zT y pc = some (.ifCond .le off, 3, a, b, w)) (ho : (pc : Int) + off = (tgt : Int)) : zr X y pc ls (.int u :: st) m = if u ≤ 0 then zr X y tgt ls st m else zr X y (pc + 3) ls st m := by
  have key : zact X y pc ls (.int u :: st) m = some (.inl (cond (zcmp .le u 0) tgt (pc + 3), ls, st, m)) := by
    rw [zact_eq hT]
    show zbr pc ls m off (zcmp .le u 0) st = _
    unfold zbr
    rw [ho, if_pos (Int.natCast_nonneg tgt)]
    rfl
  rw [zr_go key]
  by_cases h : u ≤ 0
  · rw [if_pos h, show zcmp .le u 0 = true from decide_eq_true h]
    rfl
  · rw [if_neg h, show zcmp .le u 0 = false from decide_eq_false h]
    rfl
theorem zr_ic_le {u v : Int32} {off : Int} {tgt : Nat} (hT : zT y pc = some (.if_icmp .le off, 3, a, b, w)) (ho : (pc : Int) + off = (tgt : Int)) : zr X y pc ls (.int v :: .int u :: st) m = if u ≤ v then zr X y tgt ls st m else zr X y (pc + 3) ls st m := by
  have key : zact X y pc ls (.int v :: .int u :: st) m = some (.inl (cond (zcmp .le u v) tgt (pc + 3), ls, st, m)) := by
    rw [zact_eq hT]
    show zbr pc ls m off (zcmp .le u v) st = _
    unfold zbr
    rw [ho, if_pos (Int.natCast_nonneg tgt)]
    rfl
  rw [zr_go key]
  by_cases h : u ≤ v
  · rw [if_pos h, show zcmp .le u v = true from decide_eq_true h]
    rfl
  · rw [if_neg h, show zcmp .le u v = false from decide_eq_false h]
    rfl
theorem zr_getI {i t k c : Nat} (hT : zT y pc = some (.getfield i, 3, c, k, w)) (h : zfI t c k = true) : zr X y pc ls (.ref t :: st) (zk I) = zr X y (pc + 3) ls (.int (I t k) :: st) (zk I) := by
  refine zr_go (q := (pc + 3, ls, .int (I t k) :: st, zk I)) ?_
  rw [zact_eq hT]
  obtain ⟨h1, h2, h3, h4⟩ := of_decide_eq_true h
  show zget c k pc ls (.ref t :: st) (zk I) = _
  unfold zget
  dsimp only
  rw [if_pos ⟨h1, h2, h3⟩]
  split
  next e => exact absurd e h4
  next => rfl
theorem zr_getR {i t k u c : Nat} (hT : zT y pc = some (.getfield i, 3, c, k, w)) (h : zfR t c k u = true) : zr X y pc ls (.ref t :: st) (zk I) = zr X y (pc + 3) ls (.ref u :: st) (zk I) := by
  refine zr_go (q := (pc + 3, ls, .ref u :: st, zk I)) ?_
  rw [zact_eq hT]
  obtain ⟨h1, h2, h3, h4, h5, h6⟩ := of_decide_eq_true h
  show zget c k pc ls (.ref t :: st) (zk I) = _
  unfold zget
  dsimp only
  rw [if_pos ⟨h1, h2, h3⟩, h4]
  have h7 : zRf (zk I) t k = u := h5
  rw [h7, if_neg h6]
  rfl
theorem zr_putI {i t k c : Nat} {x : Int32} (hT : zT y pc = some (.putfield i, 3, c, k, w)) (h : zfI t c k = true) (hf : zFk c k = 0 ∨ zFk c k = 1 ∧ (x = 0 ∨ x = 1)) : zr X y pc ls (.int x :: .ref t :: st) (zk I) = zr X y (pc + 3) ls st (zk (zs1 I t k x)) := by
  refine zr_go (q := (pc + 3, ls, st, zk (zup I t (upd (I t) k x)))) ?_
  rw [zact_eq hT]
  obtain ⟨h1, h2, h3, h4⟩ := of_decide_eq_true h
  show zput c k pc ls (.int x :: .ref t :: st) (zk I) = _
  unfold zput
  dsimp only
  rw [if_pos ⟨h1, h2, h3, hf⟩]
  rfl
theorem zr_iald {t j N : Nat} {i : Int32} (hT : zT y pc = some (.iaload, 1, a, b, w)) (h : zaI t 0 N = true) (hj : zx i = j) (hz : zin i N = true) : zr X y pc ls (.int i :: .ref t :: st) (zk I) = zr X y (pc + 1) ls (.int (I t j) :: st) (zk I) := by
  subst hj
  refine zr_go (q := (pc + 1, ls, .int (I t i.toNatClampNeg) :: st, zk I)) ?_
  rw [zact_eq hT]
  obtain ⟨h1, h2, h3⟩ := of_decide_eq_true h
  show ziald X pc ls (.int i :: .ref t :: st) (zk I) = _
  unfold ziald
  dsimp only
  have h4 : zLe (zk I) t = N := h3
  rw [if_neg h1, if_pos ⟨h2, by rw [h4]; exact hz⟩]
  rfl
theorem zr_bald {t j N : Nat} {i : Int32} (hT : zT y pc = some (.baload, 1, a, b, w)) (h : zaI t 1 N = true) (hj : zx i = j) (hz : zin i N = true) : zr X y pc ls (.int i :: .ref t :: st) (zk I) = zr X y (pc + 1) ls (.int (I t j) :: st) (zk I) := by
  subst hj
  refine zr_go (q := (pc + 1, ls, .int (I t i.toNatClampNeg) :: st, zk I)) ?_
  rw [zact_eq hT]
  obtain ⟨h1, h2, h3⟩ := of_decide_eq_true h
  show zbald pc ls (.int i :: .ref t :: st) (zk I) = _
  unfold zbald
  dsimp only
  have h4 : zLe (zk I) t = N := h3
  rw [if_pos ⟨h1, h2, by rw [h4]; exact hz⟩]
  rfl
theorem zr_aald {t u N : Nat} {i : Int32} (hT : zT y pc = some (.aaload, 1, a, b, w)) (h : zaI t 2 N = true) (hz : zin i N = true) (hu : (zR0.getD t []).getD (zx i) 0 = u) (hu0 : u ≠ 0) : zr X y pc ls (.int i :: .ref t :: st) (zk I) = zr X y (pc + 1) ls (.ref u :: st) (zk I) := by
  refine zr_go (q := (pc + 1, ls, .ref u :: st, zk I)) ?_
  rw [zact_eq hT]
  obtain ⟨h1, h2, h3⟩ := of_decide_eq_true h
  show zaald pc ls (.int i :: .ref t :: st) (zk I) = _
  unfold zaald
  dsimp only
  have h4 : zLe (zk I) t = N := h3
  have h5 : zRf (zk I) t i.toNatClampNeg = u := hu
  rw [if_pos ⟨h1, h2, by rw [h4]; exact hz, by rw [h5]; exact hu0⟩, h5]
  rfl
theorem zr_iast {t j N : Nat} {i x : Int32} (hT : zT y pc = some (.iastore, 1, a, b, w)) (h : zaI t 0 N = true) (hj : zx i = j) (hz : zin i N = true) : zr X y pc ls (.int x :: .int i :: .ref t :: st) (zk I) = zr X y (pc + 1) ls st (zk (zs1 I t j x)) := by
  subst hj
  refine zr_go (q := (pc + 1, ls, st, zk (zup I t (upd (I t) i.toNatClampNeg x)))) ?_
  rw [zact_eq hT]
  obtain ⟨h1, h2, h3⟩ := of_decide_eq_true h
  show ziast pc ls (.int x :: .int i :: .ref t :: st) (zk I) = _
  unfold ziast
  dsimp only
  have h4 : zLe (zk I) t = N := h3
  rw [if_pos ⟨h1, h2, by rw [h4]; exact hz⟩]
  rfl
theorem zr_bast {t j N : Nat} {i x : Int32} (hT : zT y pc = some (.bastore, 1, a, b, w)) (h : zaI t 1 N = true) (hj : zx i = j) (hz : zin i N = true) (hx : x = 0 ∨ x = 1) : zr X y pc ls (.int x :: .int i :: .ref t :: st) (zk I) = zr X y (pc + 1) ls st (zk (zs1 I t j x)) := by
  subst hj
  refine zr_go (q := (pc + 1, ls, st, zk (zup I t (upd (I t) i.toNatClampNeg x)))) ?_
  rw [zact_eq hT]
  obtain ⟨h1, h2, h3⟩ := of_decide_eq_true h
  show zbast pc ls (.int x :: .int i :: .ref t :: st) (zk I) = _
  unfold zbast
  dsimp only
  have h4 : zLe (zk I) t = N := h3
  rw [if_pos ⟨h1, h2, by rw [h4]; exact hz, hx⟩]
  rfl
theorem zr_alen {t N : Nat} {x : Int32} (hT : zT y pc = some (.arraylength, 1, a, b, w)) (h : (zaI t 0 N || zaI t 1 N || zaI t 2 N) = true) (hx : Int32.ofNat N = x) : zr X y pc ls (.ref t :: st) (zk I) = zr X y (pc + 1) ls (.int x :: st) (zk I) := by
  subst hx
  refine zr_go (q := (pc + 1, ls, .int (Int32.ofNat N) :: st, zk I)) ?_
  rw [zact_eq hT]
  show zalen X pc ls (.ref t :: st) (zk I) = _
  unfold zalen
  dsimp only
  have key : t ≠ 0 ∧ zKi (zk I) t < 3 ∧ zLe (zk I) t = N := by
    simp only [Bool.or_eq_true] at h
    rcases h with (h | h) | h
    all_goals
      obtain ⟨h1, h2, h3⟩ := of_decide_eq_true h
      refine ⟨h1, ?_, h3⟩
      show zK0.getD t 50 < 3
      omega
  rw [if_neg key.1, if_pos key.2.1, key.2.2]
  rfl
theorem zr_sld {j : Nat} {i : Int32} (hT : zT y pc = some (.iaload, 1, a, b, w)) (hj : zx i = j) (hz : zin i X.1 = true) : zr X y pc ls (.int i :: .ref 0 :: st) (zk I) = zr X y (pc + 1) ls (.int (X.2 j) :: st) (zk I) := by
  subst hj
  refine zr_go (q := (pc + 1, ls, .int (X.2 i.toNatClampNeg) :: st, zk I)) ?_
  rw [zact_eq hT]
  show ziald X pc ls (.int i :: .ref 0 :: st) (zk I) = _
  unfold ziald
  dsimp only
  rw [if_pos rfl, if_pos ⟨rfl, hz⟩]
  rfl
theorem zr_slen (hT : zT y pc = some (.arraylength, 1, a, b, w)) : zr X y pc ls (.ref 0 :: st) (zk I) = zr X y (pc + 1) ls (.int (Int32.ofNat X.1) :: st) (zk I) := by
  refine zr_go (q := (pc + 1, ls, .int (Int32.ofNat X.1) :: st, zk I)) ?_
  rw [zact_eq hT]
  rfl
theorem zr_acopy {i t d j k z N M : Nat} {sp dp c : Int32} (hT : zT y pc = some (.invokestatic i, 3, 1001, b, w)) (h : zaI t 0 N = true) (h' : zaI d 0 M = true) (h1 : ¬ sp < 0) (h2 : ¬ dp < 0) (h3 : ¬ c < 0) (hj : zx sp = j) (hk : zx dp = k) (hz : zx c = z) (h4 : j + z ≤ N) (h5 : k + z ≤ M) :
    zr X y pc ls [.int c, .int dp, .ref d, .int sp, .ref t] (zk I) = zr X y (pc + 3) ls [] (zk (zs2 I t d j k z)) := by
  subst hj
  subst hk
  subst hz
  refine zr_go (q := (pc + 3, ls, [], zk (zup I d (va_cpy (I t) (I d) (zx sp) (zx dp) (zx c))))) ?_
  rw [zact_eq hT]
  obtain ⟨a1, a2, a3⟩ := of_decide_eq_true h
  obtain ⟨b1, b2, b3⟩ := of_decide_eq_true h'
  have e1 : zLe (zk I) t = N := a3
  have e2 : zLe (zk I) d = M := b3
  show (if (1001 : Nat) = 1001 then zacopy pc ls [.int c, .int dp, .ref d, .int sp, .ref t] (zk I) else if (1001 : Nat) = 1002 then zmin pc ls [.int c, .int dp, .ref d, .int sp, .ref t] (zk I) else zcall 1001 [.int c, .int dp, .ref d, .int sp, .ref t] (zk I)) = _
  rw [if_pos rfl]
  unfold zacopy
  dsimp only
  rw [if_pos ⟨a1, b1, a2, b2, h1, h2, h3, by rw [e1]; exact h4, by rw [e2]; exact h5, rfl⟩]
  rfl
theorem zr_min {i : Nat} {u v : Int32} (hT : zT y pc = some (.invokestatic i, 3, 1002, b, w)) (hs : decide ((st.map fun v => v.category).sum ≤ 8) = true) : zr X y pc ls (.int v :: .int u :: st) m = zr X y (pc + 3) ls (.int (if v < u then v else u) :: st) m := by
  refine zr_go (q := (pc + 3, ls, .int (if v < u then v else u) :: st, m)) ?_
  rw [zact_eq hT]
  show zmin pc ls (.int v :: .int u :: st) m = _
  unfold zmin
  dsimp only
  rw [if_pos (of_decide_eq_true hs)]
  rfl
theorem zr_iret {v : Int32} (hT : zT y pc = some (.ireturn, 1, a, b, w)) (hr : zRt y = some .int) : zr X y pc ls [.int v] m = some (some (.int v), m) := by
  refine zr_ret ?_
  rw [zact_eq hT]
  show zret y [.int v] m = _
  unfold zret
  rw [hr]
theorem zr_zret {v : Int32} (hT : zT y pc = some (.ireturn, 1, a, b, w)) (hr : zRt y = some .boolean) (hv : v = 0 ∨ v = 1) : zr X y pc ls [.int v] m = some (some (.int v), m) := by
  refine zr_ret ?_
  rw [zact_eq hT]
  show zret y [.int v] m = _
  unfold zret
  rw [hr]
  dsimp only
  rw [if_pos hv]
theorem zr_vret (hT : zT y pc = some (.return_, 1, a, b, w)) (hr : zRt y = none) : zr X y pc ls [] m = some (none, m) := by
  refine zr_ret ?_
  rw [zact_eq hT]
  show (if ([] : List Value) = [] ∧ zRt y = none then _ else none) = _
  rw [if_pos ⟨rfl, hr⟩]
/-- a call, on the memory that stands -/
def zcok (k : Nat) (st : List Value) : Bool := decide (zA k ≤ st.length ∧ ((st.drop (zA k)).map fun v => v.category).sum ≤ 8 ∧ k < 187 ∧ (zEn k (st.take (zA k)).reverse).length = zL k) && (zSt k || zrcv k st (zk fun _ _ => 0))
theorem zK0_pos : 0 < zK0.length := by decide +kernel
theorem zrcv_k {k : Nat} : zrcv k st (zk I) = zrcv k st (zk fun _ _ => 0) := by
  unfold zrcv
  split <;> rfl
theorem zcall_k {k : Nat} {As rest : List Value} (h : zcok k st = true) (h1 : (st.take (zA k)).reverse = As) (h2 : st.drop (zA k) = rest) : zcall k st (zk I) = some (.inr (.inr (k, As, rest))) := by
  unfold zcok at h
  simp only [Bool.and_eq_true, Bool.or_eq_true, decide_eq_true_eq] at h
  obtain ⟨⟨a1, a2, a3, a4⟩, a5⟩ := h
  unfold zcall
  rw [if_pos ⟨a1, a2, a3, zK0_pos, a4, by rw [zrcv_k]; exact a5⟩, h1, h2]
theorem zr_callv {i k : Nat} {As rest ls' : List Value} (hT : zT y pc = some (.invokevirtual i, 3, k, b, w)) (h : zcok k st = true) (h1 : (st.take (zA k)).reverse = As) (h2 : st.drop (zA k) = rest) (h3 : zEn k As = ls') : zr X y pc ls st (zk I) = zcb (zr X k 0 ls' [] (zk I)) (fun v m1 => zr X y (pc + 3) ls (v.toList ++ rest) m1) := by
  subst h3
  refine zr_cl ?_
  rw [zact_eq hT]
  exact zcall_k h h1 h2
theorem zr_calls {i k : Nat} {As rest ls' : List Value} (hT : zT y pc = some (.invokestatic i, 3, k, b, w)) (hk : (k != 1001 && k != 1002) = true) (h : zcok k st = true) (h1 : (st.take (zA k)).reverse = As) (h2 : st.drop (zA k) = rest) (h3 : zEn k As = ls') : zr X y pc ls st (zk I) = zcb (zr X k 0 ls' [] (zk I)) (fun v m1 => zr X y (pc + 3) ls (v.toList ++ rest) m1) := by
  subst h3
  refine zr_cl ?_
  rw [zact_eq hT]
  simp only [Bool.and_eq_true, bne_iff_ne] at hk
  show (if k = 1001 then _ else if k = 1002 then _ else zcall k st (zk I)) = _
  rw [if_neg hk.1, if_neg hk.2]
  exact zcall_k h h1 h2
theorem zr_tabI {d lo hi off : Int} {offs : Array Int} {len tgt : Nat} {x : Int32} (hT : zT y pc = some (.tableswitch d lo hi offs, len, a, b, w)) (h1 : ¬ (x.toInt < lo ∨ hi < x.toInt)) (h2 : offs[(x.toInt - lo).toNat]? = some off) (ho : (pc : Int) + off = (tgt : Int)) : zr X y pc ls (.int x :: st) m = zr X y tgt ls st m := by
  refine zr_go (q := (tgt, ls, st, m)) ?_
  rw [zact_eq hT]
  show (match (if x.toInt < lo ∨ hi < x.toInt then some d else offs[(x.toInt - lo).toNat]?) with | some off => if 0 ≤ (pc : Int) + off then zgo ((pc : Int) + off).toNat ls st m else none | none => none) = _
  rw [if_neg h1, h2]
  dsimp only
  rw [ho, if_pos (Int.natCast_nonneg tgt)]
  rfl
theorem zr_tabO {d lo hi : Int} {offs : Array Int} {len tgt : Nat} {x : Int32} (hT : zT y pc = some (.tableswitch d lo hi offs, len, a, b, w)) (h1 : x.toInt < lo ∨ hi < x.toInt) (ho : (pc : Int) + d = (tgt : Int)) : zr X y pc ls (.int x :: st) m = zr X y tgt ls st m := by
  refine zr_go (q := (tgt, ls, st, m)) ?_
  rw [zact_eq hT]
  show (match (if x.toInt < lo ∨ hi < x.toInt then some d else offs[(x.toInt - lo).toNat]?) with | some off => if 0 ≤ (pc : Int) + off then zgo ((pc : Int) + off).toNat ls st m else none | none => none) = _
  rw [if_pos h1]
  dsimp only
  rw [ho, if_pos (Int.natCast_nonneg tgt)]
  rfl
theorem zr_look {d : Int} {ps : Array (Int × Int)} {len tgt : Nat} {x : Int32} (hT : zT y pc = some (.lookupswitch d ps, len, a, b, w)) (hp : (ps.toList.zip (ps.toList.drop 1)).all (fun (a, next) => a.1 < next.1) = true) (ho : (pc : Int) + Op.lookupswitch.offset ps.toList d x.toInt = (tgt : Int)) : zr X y pc ls (.int x :: st) m = zr X y tgt ls st m := by
  refine zr_go (q := (tgt, ls, st, m)) ?_
  rw [zact_eq hT]
  show (if 0 ≤ (pc : Int) + Op.lookupswitch.offset ps.toList d x.toInt ∧ (ps.toList.zip (ps.toList.drop 1)).all (fun (a, next) => a.1 < next.1) = true then zgo ((pc : Int) + Op.lookupswitch.offset ps.toList d x.toInt).toNat ls st m else none) = _
  rw [if_pos ⟨by rw [ho]; exact Int.natCast_nonneg tgt, hp⟩, ho]
  rfl
end ZE
