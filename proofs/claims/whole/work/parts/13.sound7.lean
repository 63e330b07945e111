/-! THE PURE MACHINE IS SOUND, part 7: runs; the claim out of one pure run -/
theorem zret_inv {y : Nat} {st : List Value} {m : zM} {r : Option Value × zM} (h : zret y st m = some (.inr (.inl r))) : ∃ x : Int32, st = [.int x] ∧ r = (some (.int x), m) ∧ (zRt y = some .int ∨ (zRt y = some .boolean ∧ (x = 0 ∨ x = 1))) := by
  unfold zret at h
  split at h
  next x =>
    split at h
    next e => cases h; exact ⟨x, rfl, rfl, Or.inl e⟩
    next e =>
      split at h
      next hx => cases h; exact ⟨x, rfl, rfl, Or.inr ⟨e, hx⟩⟩
      next => cases h
    next => cases h
  next => cases h
theorem zins_retc {X : Nat × (Nat → Int32)} {y pc a bb w n : Nat} {i : Instr} {ls st : List Value} {m : zM} {r : Option Value × zM} (hi : zins X y (i, n, a, bb, w) pc ls st m = some (.inr (.inl r))) :
    (i = .ireturn ∧ zret y st m = some (.inr (.inl r))) ∨ (i = .return_ ∧ st = [] ∧ zRt y = none ∧ r = (none, m)) := by
  have nc : ∀ k, zcall k st m ≠ some (.inr (.inl r)) := by
    intro k h
    unfold zcall at h
    split at h
    next => cases h
    next => cases h
  cases i with
  | ireturn => exact Or.inl ⟨rfl, hi⟩
  | return_ =>
    have h2 : (if st = [] ∧ zRt y = none then (some (.inr (.inl (none, m))) : zRes) else none) = some (.inr (.inl r)) := hi
    split at h2
    next h3 => cases h2; exact Or.inr ⟨rfl, h3.1, h3.2, rfl⟩
    next => cases h2
  | invokevirtual j => exact absurd hi (nc _)
  | invokespecial j =>
    have h2 : (if a = 1000 then zoinit pc ls st m else zcall a st m) = some (.inr (.inl r)) := hi
    split at h2
    next =>
      unfold zoinit at h2
      split at h2
      next =>
        split at h2
        next => cases h2
        next => cases h2
      next => cases h2
    next ha => exact absurd h2 (nc _)
  | invokestatic j =>
    have h2 : (if a = 1001 then zacopy pc ls st m else if a = 1002 then zmin pc ls st m else zcall a st m) = some (.inr (.inl r)) := hi
    split at h2
    next =>
      unfold zacopy at h2
      split at h2
      next =>
        split at h2
        next => cases h2
        next => cases h2
      next => cases h2
    next ha =>
      split at h2
      next =>
        unfold zmin at h2
        split at h2
        next =>
          split at h2
          next => cases h2
          next => cases h2
        next => cases h2
      next ha2 => exact absurd h2 (nc _)
  | newarray t =>
    cases t <;> first | (cases hi; done) | (exfalso; unfold zins at hi; dsimp only at hi; unfold znewa at hi; (repeat' (split at hi)) <;> (first | (cases hi; done)))
  | _ =>
    first
    | (cases hi; done)
    | (exfalso; unfold zins at hi; dsimp only at hi; (try unfold zlda at hi); (try unfold zld at hi); (try unfold zldl at hi); (try unfold zst at hi); (try unfold zsta at hi); (try unfold zstl at hi); (try unfold zget at hi); (try unfold zput at hi); (try unfold ziald at hi); (try unfold zbald at hi); (try unfold zaald at hi); (try unfold ziast at hi); (try unfold zbast at hi); (try unfold zaast at hi); (try unfold zalen at hi); (try unfold znewa at hi); (try unfold znew at hi); (try unfold zi2 at hi); (try unfold zl2 at hi); (try unfold zl1 at hi); (try unfold zinc at hi); (try unfold zbr at hi); (repeat' (split at hi)) <;> (first | (cases hi; done)))
theorem zins_ret {X : Nat × (Nat → Int32)} {y pc a bb w n : Nat} {i : Instr} {ls st : List Value} {m : zM} {r : Option Value × zM} (hi : zins X y (i, n, a, bb, w) pc ls st m = some (.inr (.inl r))) : r.2 = m := by
  rcases zins_retc hi with ⟨-, h⟩ | ⟨-, -, -, rfl⟩
  · obtain ⟨x, -, rfl, -⟩ := zret_inv h
    rfl
  · rfl
theorem zins_end {X : Nat × (Nat → Int32)} {y pc a bb w n : Nat} {i : Instr} {ls st : List Value} {m : zM} {r : Option Value × zM} (hd : decode (zB y) pc = .ok (i, n)) (hn : zlen i n = true) (hi : zins X y (i, n, a, bb, w) pc ls st m = some (.inr (.inl r))) : st = r.1.toList ∧ zEnd y pc r.1 := by
  rcases zins_retc hi with ⟨rfl, h⟩ | ⟨rfl, h1, h2, rfl⟩
  · obtain ⟨x, rfl, rfl, h3⟩ := zret_inv h
    cases zn1 hn rfl
    exact ⟨rfl, Or.inr ⟨x, rfl, hd, h3⟩⟩
  · cases zn1 hn rfl
    exact ⟨h1, Or.inl ⟨rfl, hd, h2⟩⟩
theorem zrun_mono {X : Nat × (Nat → Int32)} : ∀ (n y pc : Nat) (ls st : List Value) (m : zM) (r : Option Value × zM), zrun X n y pc ls st m = some r → m.2.1.length ≤ r.2.2.1.length ∧ m.1 ≤ r.2.1
  | 0, _, _, _, _, _, _, h => by cases h
  | n + 1, y, pc, ls, st, m, r, h => by
    unfold zrun at h
    split at h
    next q e =>
      have h1 := zact_mono e
      have h2 := zrun_mono n _ _ _ _ _ _ h
      exact ⟨Nat.le_trans h1.1 h2.1, Nat.le_trans h1.2 h2.2⟩
    next q e =>
      cases h
      have h1 : r.2 = m := by
        unfold zact at e
        split at e
        next r0 _ =>
          obtain ⟨i, n, a, bb, w⟩ := r0
          exact zins_ret e
        next => cases e
      rw [h1]
      exact ⟨Nat.le_refl _, Nat.le_refl _⟩
    next q e =>
      split at h
      next v e2 =>
        have h1 := zrun_mono n _ _ _ _ _ _ e2
        have h2 := zrun_mono n _ _ _ _ _ _ h
        exact ⟨Nat.le_trans h1.1 h2.1, Nat.le_trans h1.2 h2.2⟩
      next => cases h
    next => cases h
section ZZ
variable {D : va_G} {cA : Nat → ClassId} {b h0 : Nat} {X : Nat × (Nat → Int32)} {HL : Heap}
/-- EVERY PURE RUN IS ONE OF THE REAL MACHINE -/
theorem zrun_sound : ∀ (n y pc : Nat) (ls st : List Value) (m : zM) (r : Option Value × zM), zrun X n y pc ls st m = some r → zSr D cA b h0 X HL y pc ls st m r.1 r.2
  | 0, _, _, _, _, _, _, h => by cases h
  | n + 1, y, pc, ls, st, m, r, h => by
    unfold zrun at h
    split at h
    next q e =>
      have ih := zrun_sound n _ _ _ _ _ _ h
      have h1 := zact_mono e
      have h2 := zrun_mono n _ _ _ _ _ _ h
      intro l p e0 R s mi args below meth c H locs cells slots Q lsC hc hw hz hl hk1 hk2 hend
      refine zact_sound e l p e0 R s mi args below meth c H locs cells slots Q lsC hc hw hz hl (by omega) (by omega) (fun H' locs' lsC' cells' slots' hw' hl' hc' hs' => ?_)
      refine ih l p e0 R s mi args below meth c H' locs' cells' slots' Q lsC' hc hw' (by omega) hl' (by omega) (by omega) (fun H2 locs2 lsC2 cells2 slots2 pc2 hw2 hc2 hs2 he2 => ?_)
      exact hend H2 locs2 lsC2 cells2 slots2 pc2 hw2 (by omega) (by omega) he2
    next q e =>
      cases h
      unfold zact at e
      split at e
      next r0 hr =>
        have ok := zT_ok hr
        obtain ⟨i, n, a, bb, w⟩ := r0
        unfold zOK at ok
        simp only [Bool.and_eq_true, decide_eq_true_eq] at ok
        obtain ⟨⟨hd, hn⟩, -⟩ := ok
        obtain ⟨e1, e2⟩ := zins_end hd hn e
        intro l p e0 R s mi args below meth c H locs cells slots Q lsC hc hw hz hl hk1 hk2 hend
        have e3 : r.2 = m := zins_ret e
        have h9 := hend H locs lsC cells slots pc (by rw [e3]; exact hw) (by rw [e3]) (by rw [e3]) e2
        rw [e1]
        have e4 : (zvo b h0 r.1).toList = r.1.toList.map (zv b h0) := by
          cases r.1 <;> rfl
        rw [e4] at h9
        exact h9
      next => cases e
    next q e =>
      split at h
      next v e2 =>
        have ih1 := zrun_sound n _ _ _ _ _ _ e2
        have ih2 := zrun_sound n _ _ _ _ _ _ h
        have m1 := zrun_mono n _ _ _ _ _ _ e2
        have m2 := zrun_mono n _ _ _ _ _ _ h
        unfold zact at e
        split at e
        next r0 hr =>
          intro l p e0 R s mi args below meth c H locs cells slots Q lsC hc hw hz hl hk1 hk2 hend
          refine zs_call hc hw hz hl hr e ih1 m1.1 m1.2 (by omega) (by omega) (fun H1 locs1 hw1 => ?_)
          have e4 : (zvo b h0 v.1).toList ++ q.2.2.map (zv b h0) = (v.1.toList ++ q.2.2).map (zv b h0) := by
            rw [List.map_append]
            cases v.1 <;> rfl
          rw [e4]
          refine ih2 l p e0 R s mi args below meth c H1 locs1 _ _ Q lsC hc hw1 (by omega) hl (by omega) (by omega) (fun H2 locs2 lsC2 cells2 slots2 pc2 hw2 hc2 hs2 he2 => ?_)
          exact hend H2 locs2 lsC2 cells2 slots2 pc2 hw2 (by omega) (by omega) he2
        next => cases e
      next => cases h
    next => cases h
end ZZ
