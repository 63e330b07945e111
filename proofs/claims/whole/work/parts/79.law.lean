/-! THE LAW'S LOOP -/
section L1
variable {X : Nat × (Nat → Int32)} {I : Nat → Nat → Int32}
/-- a call of both, and the comparison of their answers -/
theorem zCall {c k k' pc pc2 pc3 : Nat} {a a' L : List Value} (h : Call X c I k a k' a') (h1 : zr X 188 pc L [] (zk I) = zcb (zr X k 0 a [] (zk I)) (fun v m1 => zr X 188 pc2 L (v.toList ++ []) m1)) (h2 : ∀ (s0 : Int32) (J : Nat → Nat → Int32), zr X 188 pc2 L [.int s0] (zk J) = zcb (zr X k' 0 a' [] (zk J)) (fun v m1 => zr X 188 pc3 L (v.toList ++ [.int s0]) m1)) (h3 : ∀ (s0 s1 : Int32) (J : Nat → Nat → Int32), zr X 188 pc3 L [.int s1, .int s0] (zk J) = if s0 = s1 then zr X 188 793 L [] (zk J) else zr X 188 (pc3 + 3) L [] (zk J)) : ∃ J, zr X 188 pc L [] (zk I) = zr X 188 793 L [] (zk J) ∧ Inv (c + 1) J := by
  obtain ⟨r, I1, J, e1, e2, e3⟩ := h
  refine ⟨J, ?_, e3⟩
  rw [h1, e1, zcb_some, zn_one, h2, e2, zcb_some]
  show zr X 188 pc3 L [.int r, .int r] (zk J) = _
  rw [h3, if_pos rfl]
theorem zStep {c i : Nat} (hI : Inv c I) (hc : c ≤ 600) (hX : X.1 ≤ 2048) (hi : i + 4 ≤ X.1) : ∃ J, zr X 188 26 [.ref 0, .ref 1, .ref 160, .int (nI i)] [] (zk I) = zr X 188 793 [.ref 0, .ref 1, .ref 160, .int (nI i)] [] (zk J) ∧ Inv (c + 1) J := by
  have e1 : nI i + 1 = nI (i + 1) := (nI_succ i).symm
  have e2 : nI i + 2 = nI (i + 2) := (zI_add i 2).symm
  have e3 : nI i + 3 = nI (i + 3) := (zI_add i 3).symm
  have z0 : zin (nI i) X.1 = true := zin_nI (by omega) (by omega)
  have z1 : zin (nI i + 1) X.1 = true := by rw [e1]; exact zin_nI (by omega) (by omega)
  have z2 : zin (nI i + 2) X.1 = true := by rw [e2]; exact zin_nI (by omega) (by omega)
  have z3 : zin (nI i + 3) X.1 = true := by rw [e3]; exact zin_nI (by omega) (by omega)
  rcases sw_cases 24 (by decide) ((X.2 (zx (nI i))) &&& 31) with hx | ⟨j, hj, hx⟩
  · refine ⟨I, k188_26_d z0 hx, ?_⟩
    exact inv_q hI cQ_rf mQ_rf
  · have hj25 : j = 0 ∨ j = 1 ∨ j = 2 ∨ j = 3 ∨ j = 4 ∨ j = 5 ∨ j = 6 ∨ j = 7 ∨ j = 8 ∨ j = 9 ∨ j = 10 ∨ j = 11 ∨ j = 12 ∨ j = 13 ∨ j = 14 ∨ j = 15 ∨ j = 16 ∨ j = 17 ∨ j = 18 ∨ j = 19 ∨ j = 20 ∨ j = 21 ∨ j = 22 ∨ j = 23 ∨ j = 24 := by omega
    rcases hj25 with rfl | rfl | rfl | rfl | rfl | rfl | rfl | rfl | rfl | rfl | rfl | rfl | rfl | rfl | rfl | rfl | rfl | rfl | rfl | rfl | rfl | rfl | rfl | rfl | rfl
    · rw [k188_26_c0 z0 (by rw [hx]; rfl)]
      exact zCall (p_begin (X := X) hI) k188_148 (fun _ _ => k188_152) (fun _ _ _ => k188_156)
    · rw [k188_26_c1 z0 (by rw [hx]; rfl)]
      exact zCall (p_rank (X := X) hI _ _) (k188_161 z1 z2) (fun _ _ => (k188_175 z1 z2)) (fun _ _ _ => k188_189)
    · rw [k188_26_c2 z0 (by rw [hx]; rfl)]
      exact zCall (p_mark (X := X) hI) k188_194 (fun _ _ => k188_198) (fun _ _ _ => k188_202)
    · rw [k188_26_c3 z0 (by rw [hx]; rfl)]
      exact zCall (p_strike (X := X) hI _ _ _) (k188_207 z1 z2 z3) (fun _ _ => (k188_226 z1 z2 z3)) (fun _ _ _ => k188_245)
    · rw [k188_26_c4 z0 (by rw [hx]; rfl)]
      exact zCall (p_accept (X := X) hI _) (k188_250 z1) (fun _ _ => (k188_259 z1)) (fun _ _ _ => k188_268)
    · rw [k188_26_c5 z0 (by rw [hx]; rfl)]
      exact zCall (p_refuse (X := X) hI _) (k188_273 z1) (fun _ _ => (k188_282 z1)) (fun _ _ _ => k188_291)
    · rw [k188_26_c6 z0 (by rw [hx]; rfl)]
      exact zCall (p_wash (X := X) hI _) (k188_296 z1) (fun _ _ => (k188_305 z1)) (fun _ _ _ => k188_314)
    · rw [k188_26_c7 z0 (by rw [hx]; rfl)]
      exact zCall (p_judge (X := X) hI) k188_319 (fun _ _ => k188_323) (fun _ _ _ => k188_327)
    · rw [k188_26_c8 z0 (by rw [hx]; rfl)]
      exact zCall (p_ship (X := X) hI (by omega)) k188_332 (fun _ _ => k188_336) (fun _ _ _ => k188_340)
    · rw [k188_26_c9 z0 (by rw [hx]; rfl)]
      exact zCall (p_letter (X := X) hI _ _) (k188_345 z1 z2) (fun _ _ => (k188_359 z1 z2)) (fun _ _ _ => k188_373)
    · rw [k188_26_c10 z0 (by rw [hx]; rfl)]
      exact zCall (p_seen (X := X) hI _ _) (k188_378 z1 z2) (fun _ _ => (k188_392 z1 z2)) (fun _ _ _ => k188_406)
    · rw [k188_26_c11 z0 (by rw [hx]; rfl)]
      exact zCall (p_of (X := X) hI _ _) (k188_411 z1 z2) (fun _ _ => (k188_425 z1 z2)) (fun _ _ _ => k188_439)
    · rw [k188_26_c12 z0 (by rw [hx]; rfl)]
      exact zCall (p_clash (X := X) hI _ _) (k188_444 z1 z2) (fun _ _ => (k188_458 z1 z2)) (fun _ _ _ => k188_472)
    · rw [k188_26_c13 z0 (by rw [hx]; rfl)]
      exact zCall (p_editor (X := X) hI _ _) (k188_477 z1 z2) (fun _ _ => (k188_491 z1 z2)) (fun _ _ _ => k188_505)
    · rw [k188_26_c14 z0 (by rw [hx]; rfl)]
      exact zCall (p_count (X := X) hI (by omega) _) (k188_510 z1) (fun _ _ => (k188_519 z1)) (fun _ _ _ => k188_528)
    · rw [k188_26_c15 z0 (by rw [hx]; rfl)]
      exact zCall (p_version (X := X) hI (by omega) _ _) (k188_533 z1 z2) (fun _ _ => (k188_547 z1 z2)) (fun _ _ _ => k188_561)
    · rw [k188_26_c16 z0 (by rw [hx]; rfl)]
      exact zCall (p_apart (X := X) hI (by omega) _ _) (k188_566 z1 z2) (fun _ _ => (k188_580 z1 z2)) (fun _ _ _ => k188_594)
    · rw [k188_26_c17 z0 (by rw [hx]; rfl)]
      exact zCall (p_ifAccepted (X := X) hI _ _) (k188_599 z1 z2) (fun _ _ => (k188_613 z1 z2)) (fun _ _ _ => k188_627)
    · rw [k188_26_c18 z0 (by rw [hx]; rfl)]
      exact zCall (p_ifJudged (X := X) hI _) (k188_632 z1) (fun _ _ => (k188_641 z1)) (fun _ _ _ => k188_650)
    · rw [k188_26_c19 z0 (by rw [hx]; rfl)]
      exact zCall (p_put (X := X) hI _) (k188_655 z1 z2) (fun _ _ => (k188_679 z1 z2)) (fun _ _ _ => k188_703)
    · rw [k188_26_c20 z0 (by rw [hx]; rfl)]
      exact zCall (p_wipe (X := X) hI) k188_708 (fun _ _ => k188_712) (fun _ _ _ => k188_716)
    · rw [k188_26_c21 z0 (by rw [hx]; rfl)]
      exact zCall (p_fault (X := X) hI) k188_721 (fun _ _ => k188_725) (fun _ _ _ => k188_729)
    · rw [k188_26_c22 z0 (by rw [hx]; rfl)]
      exact zCall (p_undo (X := X) hI) k188_734 (fun _ _ => k188_738) (fun _ _ _ => k188_742)
    · rw [k188_26_c23 z0 (by rw [hx]; rfl)]
      exact zCall (p_save (X := X) hI _) (k188_747 z1) (fun _ _ => (k188_756 z1)) (fun _ _ _ => k188_765)
    · rw [k188_26_c24 z0 (by rw [hx]; rfl)]
      exact zCall (p_restore (X := X) hI _) (k188_770 z1) (fun _ _ => (k188_779 z1)) (fun _ _ _ => k188_788)
theorem nI_sub4 {n i : Nat} (hn : n ≤ 2048) (hi : i ≤ 3000) : nI n - 4 < nI i ↔ n < i + 4 := by
  by_cases h : 4 ≤ n
  · rw [show nI n - 4 = nI (n - 4) from zI_sub (b := 4) h, nI_lt_iff (by omega) (by omega)]
    omega
  · have h0 : nI n - 4 < 0 := by
      have hx : ∀ n : Nat, n < 4 → nI n - 4 < 0 := by decide
      exact hx n (by omega)
    constructor
    · intro _
      omega
    · intro _
      exact Int32.lt_of_lt_of_le h0 (Int32.not_lt.mp (nI_pos (by omega)))
/-- from the loop's head on the law answers 1 -/
theorem zLoop (hX : X.1 ≤ 2048) : ∀ (f c : Nat) (I : Nat → Nat → Int32), c + f = 520 → Inv c I → ∃ J, zr X 188 18 [.ref 0, .ref 1, .ref 160, .int (nI (4 * c))] [] (zk I) = some (some (.int 1), zk J) := by
  have hend : ∀ (c : Nat) (I : Nat → Nat → Int32), c ≤ 520 → X.1 < 4 * c + 4 → ∃ J, zr X 188 18 [.ref 0, .ref 1, .ref 160, .int (nI (4 * c))] [] (zk I) = some (some (.int 1), zk J) := by
    intro c I hc h
    refine ⟨I, ?_⟩
    rw [k188_18, if_pos (show Int32.ofNat X.1 - 4 < nI (4 * c) from (nI_sub4 hX (by omega)).mpr h), k188_799]
  intro f
  induction f with
  | zero =>
    intro c I hc _
    exact hend c I (by omega) (by omega)
  | succ f ih =>
    intro c I hc hI
    by_cases h : X.1 < 4 * c + 4
    · exact hend c I (by omega) h
    · obtain ⟨J, j1, j2⟩ := zStep (X := X) (i := 4 * c) hI (by omega) hX (by omega)
      have e4 : nI (4 * c) + 4 = nI (4 * (c + 1)) := (zI_add (4 * c) 4).symm
      rw [k188_18, if_neg (show ¬ Int32.ofNat X.1 - 4 < nI (4 * c) from fun z => h ((nI_sub4 hX (by omega)).mp z)), j1, k188_793, e4]
      exact ih (c + 1) J (by omega) j2
end L1
