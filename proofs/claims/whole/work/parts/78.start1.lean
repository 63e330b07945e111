/-! BEFORE THE FIRST CALL: the constructors read nothing of the script, so they run alike on every script -/
def zcS : List Nat := [0, 3, 34, 41, 50, 61, 64, 69, 79, 87, 115]
def zX0 : Nat × (Nat → Int32) := (0, fun _ => 0)
def zNoX (q : Nat × zRow) : Bool := match q.2.1 with
  | .iaload => false
  | .arraylength => false
  | _ => true
theorem zcS_no : zcS.all (fun y => (zPr.getD y []).all zNoX) = true := by decide +kernel
theorem zlk_in : ∀ (l : List (Nat × zRow)) (pc : Nat) (r : zRow), zlk l pc = some r → ∃ q, q ∈ l ∧ q.2 = r
  | [], _, _, h => by cases h
  | q :: l, pc, r, h => by
    unfold zlk at h
    cases e : Nat.beq q.1 pc with
    | true =>
      rw [e] at h
      exact ⟨q, List.mem_cons_self, Option.some.inj h⟩
    | false =>
      rw [e] at h
      obtain ⟨x, h1, h2⟩ := zlk_in l pc r h
      exact ⟨x, List.mem_cons_of_mem _ h1, h2⟩
theorem zins_X {X X' : Nat × (Nat → Int32)} {y pc : Nat} {r : zRow} {ls st : List Value} {m : zM} {k : Nat} (h : zNoX (k, r) = true) : zins X y r pc ls st m = zins X' y r pc ls st m := by
  obtain ⟨op, rest⟩ := r
  unfold zins
  cases op <;> first | rfl | (exact absurd (show false = true from h) (by decide)) | (rename_i t; cases t <;> rfl)
theorem zact_X {X X' : Nat × (Nat → Int32)} {y pc : Nat} {ls st : List Value} {m : zM} (hy : zcS.contains y = true) : zact X y pc ls st m = zact X' y pc ls st m := by
  unfold zact
  cases e : zT y pc with
  | none => rfl
  | some r =>
    obtain ⟨q, h1, h2⟩ := zlk_in _ _ _ e
    have h3 := List.all_eq_true.mp zcS_no y (List.contains_iff_mem.mp hy)
    have h4 := List.all_eq_true.mp h3 q h1
    obtain ⟨k, r'⟩ := q
    cases h2
    exact zins_X h4
def zrunS : Nat → Nat → Nat → List Value → List Value → zM → Option (Option Value × zM)
  | 0, _, _, _, _, _ => none
  | n + 1, y, pc, ls, st, m => if zcS.contains y = true then (match zact zX0 y pc ls st m with
    | some (.inl q) => zrunS n y q.1 q.2.1 q.2.2.1 q.2.2.2
    | some (.inr (.inl q)) => some q
    | some (.inr (.inr q)) => match zrunS n q.1 0 (zEn q.1 q.2.1) [] m with
      | some v => zrunS n y (pc + 3) ls (v.1.toList ++ q.2.2) v.2
      | none => none
    | none => none) else none
theorem zrunS_run {X : Nat × (Nat → Int32)} : ∀ (n y pc : Nat) (ls st : List Value) (m : zM) (r : Option Value × zM), zrunS n y pc ls st m = some r → zrun X n y pc ls st m = some r
  | 0, _, _, _, _, _, _, h => by cases h
  | n + 1, y, pc, ls, st, m, r, h => by
    unfold zrunS at h
    unfold zrun
    split at h
    next hy =>
      rw [zact_X (X := X) (X' := zX0) hy]
      split at h
      next q e =>
        rw [e]
        exact zrunS_run n _ _ _ _ _ _ h
      next q e =>
        rw [e]
        exact h
      next q e =>
        rw [e]
        dsimp only
        split at h
        next v e2 =>
          have h1 := zrunS_run (X := X) n _ _ _ _ _ _ e2
          rw [h1]
          exact zrunS_run n _ _ _ _ _ _ h
        next => cases h
      next => cases h
    next => cases h
def zgd (x : Option (Option Value × zM)) : Bool := match x with
  | some (none, _) => true
  | _ => false
def zmA : zM := zalloc zm0 12 8
def zmB : zM := ((zrunS 6000 87 0 (zEn 87 [.ref 1]) [] zmA).getD (none, zm0)).2
def zmC : zM := zalloc zmB 13 (zNf 10)
def zmD : zM := ((zrunS 6000 115 0 (zEn 115 [.ref 160]) [] zmC).getD (none, zm0)).2
theorem zc1 : zgd (zrunS 6000 87 0 (zEn 87 [.ref 1]) [] zmA) = true := by decide +kernel
theorem zc2 : zgd (zrunS 6000 115 0 (zEn 115 [.ref 160]) [] zmC) = true := by decide +kernel
theorem zc3 : zmD.1 = 14300 ∧ zmD.2.1 = zK0 ∧ zmD.2.2.1 = zL0 ∧ zmD.2.2.2.1 = zR0 := by decide +kernel
def zF0 : List (Nat × Nat × Int32) := [(3, 1, 0), (5, 7, 0), (13, 2, 0), (16, 0, 0), (16, 1, 1), (16, 2, 2), (16, 3, 3), (16, 4, 4), (17, 1, 0), (17, 2, 0), (111, 0, 0), (111, 1, 0), (142, 1, 0), (160, 4, 0), (160, 8, 0), (161, 0, 0), (161, 61, 0), (161, 62, 1), (161, 63, 2), (161, 64, 3), (161, 65, 4), (161, 66, 0), (161, 307, 0), (161, 308, 0), (165, 0, 0), (165, 1, 0)]
theorem zc4 : zF0.all (fun q => decide (zmD.2.2.2.2 q.1 q.2.1 = q.2.2)) = true := by decide +kernel
