/-! letter, seen, editor -/
theorem okU_pr {t n : Nat} {V : Nat → Nat → Int32} (ht : t ≤ 60) (h : wMs t n V) : okU t n V (fun i => zb (decide (V 5 i = 1))) := by
  refine ⟨ht, h.1, fun i j hi hj hij a b => h.2.2 i j hi hj hij ?_ ?_⟩
  · apply Classical.byContradiction
    intro z
    have a : zb (decide (V 5 i = 1)) ≠ 0 := a
    rw [decide_eq_false z] at a
    exact a rfl
  · apply Classical.byContradiction
    intro z
    have b : zb (decide (V 5 j = 1)) ≠ 0 := b
    rw [decide_eq_false z] at b
    exact b rfl
theorem uSh_cases {V : Nat → Nat → Int32} {n : Nat} {e : Int32} {i : Nat} (h : uSh V n e i = true) : (V 5 i = 1 ∧ sOp V n i e = false) ∨ (V 5 i = 0 ∧ V 0 i = e) := by
  unfold uSh at h
  by_cases a : V 5 i = 1
  · rw [if_pos a] at h
    refine Or.inl ⟨a, ?_⟩
    simpa using h
  · rw [if_neg a] at h
    simp only [Bool.and_eq_true, decide_eq_true_eq] at h
    exact Or.inr h
theorem sOp_no {V : Nat → Nat → Int32} {n m j : Nat} {e : Int32} (h : sOp V n m e = false) (hj : j < n) (hn : n ≤ 20) (hm : m < n) (hjm : j ≠ m) (h5 : V 5 j = 0) (h0 : V 0 j = e) : sC V m j = false := by
  have hx := (zan_false n 0).mp h j (Nat.zero_le _) (by omega)
  unfold pOp at hx
  rw [beq_eq_false_iff_ne.mpr (fun z => hjm ((nI_inj (by omega) (by omega)).mp z)), h0, h5] at hx
  simpa using hx
theorem okU_sh {t n : Nat} {V : Nat → Nat → Int32} {e : Int32} (ht : t ≤ 60) (hn : n ≤ 20) (h : wMs t n V) : okU t n V (fun i => zb (uSh V n e i)) := by
  have hz : ∀ i, zb (uSh V n e i) ≠ 0 → uSh V n e i = true := by
    intro i hi
    cases q : uSh V n e i with
    | true => rfl
    | false =>
      rw [q] at hi
      exact absurd rfl hi
  refine ⟨ht, h.1, fun i j hi hj hij a b => ?_⟩
  rcases uSh_cases (hz i a) with ⟨a1, a2⟩ | ⟨a1, a2⟩
  · rcases uSh_cases (hz j b) with ⟨b1, b2⟩ | ⟨b1, b2⟩
    · exact h.2.2 i j hi hj hij a1 b1
    · exact sOp_no a2 hj hn hi (fun z => hij z.symm) b1 b2
  · rcases uSh_cases (hz j b) with ⟨b1, b2⟩ | ⟨b1, b2⟩
    · rw [sC_comm]
      exact sOp_no b2 hi hn hj hij a1 a2
    · exact h.2.1 i j hi hj hij (a2.trans b2.symm) (by rw [a1]; decide) (by rw [b1]; decide)
theorem vEq_sOp {V V' : Nat → Nat → Int32} {n m : Nat} {e : Int32} (h : vEq V V' n) (hm : m < n) : sOp V n m e = sOp V' n m e := by
  unfold sOp
  refine zan_map (fun i hi => ?_)
  unfold pOp
  rw [vEq_sC h hm hi, h i 0 hi (by decide), h i 5 hi (by decide)]
theorem vEq_uSh {V V' : Nat → Nat → Int32} {n i : Nat} {e : Int32} (h : vEq V V' n) (hi : i < n) : uSh V n e i = uSh V' n e i := by
  unfold uSh
  rw [vEq_sOp h hi, h i 5 hi (by decide), h i 0 hi (by decide)]
theorem mk_cases2 (n : Nat) (hn : n ≤ 1000) (v : Int32) : (v < 0 ∨ nI n ≤ v) ∨ ∃ m, m < n ∧ v = nI m := by
  by_cases h : v < 0
  · exact Or.inl (Or.inl h)
  · have e := nI_zx h
    by_cases h2 : zx v < n
    · exact Or.inr ⟨zx v, h2, e.symm⟩
    · refine Or.inl (Or.inr ?_)
      rw [← e]
      exact nI_le (by omega) (zx_lt v)
section V4
variable {X : Nat × (Nat → Int32)} {I : Nat → Nat → Int32}
theorem c17 {n m : Nat} {e : Int32} (hn : n ≤ 20) (hs : I 5 7 = nI n) (hm : m < 20) : zr X 17 0 [.ref 5, .int e, .int (nI m), .null] [] (zk I) = some (some (.int (zb (sOp (vC I 6) n m e))), zk I) := by
  rw [k17_0]
  have h := zlook (F := fun i => zr X 17 2 [.ref 5, .int e, .int (nI m), .int (nI i)] [] (zk I)) (n := n) (T := some (some (.int 1), zk I)) (E := some (some (.int 0), zk I)) (p := pOp (vC I 6) m e) ?_ ?_ n 0 (by omega)
  · have h0 : nI 0 = 0 := nI_0
    rw [← h0, h]
    unfold sOp
    cases zan (pOp (vC I 6) m e) 0 n <;> rfl
  · intro i hi
    have hi0 := zin_nI (show i < 20 by omega) (show (20 : Nat) < 2 ^ 31 by decide)
    have ei : zx (nI i) = i := zx_nI (by omega)
    rw [k17_2, hs, if_neg (nI_ge hi (by omega)), k17_10]
    by_cases a0 : nI i = nI m
    · rw [if_pos a0, k17_45, ← nI_succ, show pOp (vC I 6) m e i = false by simp [pOp, a0], if_neg (by decide)]
    · rw [if_neg a0, k17_15 hi0, ei]
      by_cases a1 : I 6 i = e
      · rw [if_neg (fun z => z a1), k17_25 hi0, ei]
        by_cases a2 : I 10 i = 0
        · rw [if_neg (fun z => z a2), k17_34, c12 hm (by omega), zcb_some, zn_one, k17_40]
          by_cases a3 : sC (vC I 6) m i = true
          · rw [a3, zb_t, if_neg (by decide), k17_43, show pOp (vC I 6) m e i = true by unfold pOp; rw [a3]; simp [vC, a0, a1, a2], if_pos rfl]
          · rw [Bool.not_eq_true] at a3
            rw [a3, zb_f, if_pos rfl, k17_45, ← nI_succ, show pOp (vC I 6) m e i = false by unfold pOp; rw [a3]; simp, if_neg (by decide)]
        · rw [if_pos a2, k17_45, ← nI_succ, show pOp (vC I 6) m e i = false by simp [pOp, vC, a2], if_neg (by decide)]
      · rw [if_pos a1, k17_45, ← nI_succ, show pOp (vC I 6) m e i = false by simp [pOp, vC, a1], if_neg (by decide)]
  · rw [k17_2, hs, if_pos (nI_le (Nat.le_refl _) (by omega)), k17_51]
/-- showSeenBy -/
theorem c82 {t n : Nat} {e : Int32} (hn : n ≤ 20) (hs : I 5 7 = nI n) (hT : I 3 1 = nI t) (hu : okU t n (vC I 6) (fun i => zb (uSh (vC I 6) n e i))) : ∃ J, zr X 82 0 [.ref 153, .int e, .ref 2, .null, .null] [] (zk I) = some (none, zk J) ∧ (∀ q, q < 153 ∨ 157 < q → J q = I q) ∧ J 153 4 = nI (sPr (I 4) (vC I 6) (Lc I) (fun i => zb (uSh (vC I 6) n e i)) n t).length ∧ ∀ k, k < (sPr (I 4) (vC I 6) (Lc I) (fun i => zb (uSh (vC I 6) n e i)) n t).length → J 157 k = (sPr (I 4) (vC I 6) (Lc I) (fun i => zb (uSh (vC I 6) n e i)) n t).getD k 0 := by
  rw [k82_0]
  have hcell : ∀ i q, q ≠ 154 → zfw I 154 0 (fun i => zb (uSh (vC I 6) n e i)) i q = I q := fun i q hq => zfw_ne hq
  have hvc0 : ∀ i, vC (zfw I 154 0 (fun i => zb (uSh (vC I 6) n e i)) i) 6 = vC (zfw I 154 0 (fun i => zb (uSh (vC I 6) n e i)) i) 6 := fun _ => rfl
  have h : ∀ k i, i + k = n → zr X 82 8 [.ref 153, .int e, .ref 2, .ref 5, .int (nI i)] [] (zk (zfw I 154 0 (fun i => zb (uSh (vC I 6) n e i)) i)) = zr X 82 92 [.ref 153, .int e, .ref 2, .ref 5, .int (nI n)] [] (zk (zfw I 154 0 (fun i => zb (uSh (vC I 6) n e i)) n)) := by
    intro k
    induction k with
    | zero =>
      intro i h
      have e : i = n := by omega
      subst e
      rw [k82_8, zfw_ne (by decide), hs, if_pos (nI_le (by omega) (by omega))]
    | succ k ih =>
      intro i h
      have hi2 : i < n := by omega
      have hi0 := zin_nI (show i < 20 by omega) (show (20 : Nat) < 2 ^ 31 by decide)
      have ez : zx (nI i) = i := zx_nI (by omega)
      have e' := zfw_succ (I := I) (d := 154) (off := 0) (k := i) (g := fun i => zb (uSh (vC I 6) n e i))
      rw [Nat.zero_add] at e'
      have hvi : vEq (vC (zfw I 154 0 (fun i => zb (uSh (vC I 6) n e i)) i) 6) (vC I 6) n := vEq_cells (fun q q1 q2 => hcell i q (by omega)) (fun _ _ _ _ => rfl)
      have h1 : uSh (vC I 6) n e i = true → zr X 82 8 [.ref 153, .int e, .ref 2, .ref 5, .int (nI i + 1)] [] (zk (zs1 (zfw I 154 0 (fun i => zb (uSh (vC I 6) n e i)) i) 154 i 1)) = zr X 82 92 [.ref 153, .int e, .ref 2, .ref 5, .int (nI n)] [] (zk (zfw I 154 0 (fun i => zb (uSh (vC I 6) n e i)) n)) := by
        intro hq
        rw [← nI_succ, ← ih (i + 1) (by omega), ← e', hq]
        rfl
      have h0 : uSh (vC I 6) n e i = false → zr X 82 8 [.ref 153, .int e, .ref 2, .ref 5, .int (nI i + 1)] [] (zk (zs1 (zfw I 154 0 (fun i => zb (uSh (vC I 6) n e i)) i) 154 i 0)) = zr X 82 92 [.ref 153, .int e, .ref 2, .ref 5, .int (nI n)] [] (zk (zfw I 154 0 (fun i => zb (uSh (vC I 6) n e i)) n)) := by
        intro hq
        rw [← nI_succ, ← ih (i + 1) (by omega), ← e', hq]
        rfl
      rw [k82_8, zfw_ne (by decide), hs, if_neg (nI_ge hi2 (by omega)), k82_17 hi0, ez, zfw_ne (t := 10) (by decide)]
      by_cases a0 : I 10 i = 0
      · have a1 : ¬ vC I 6 5 i = 1 := by
          show ¬ I 10 i = 1
          rw [a0]
          decide
        rw [if_neg (fun z => z a0), k82_27 hi0, ez, zfw_ne (t := 6) (by decide)]
        by_cases b : I 6 i = e
        · have u : uSh (vC I 6) n e i = true := by unfold uSh; rw [if_neg a1, decide_eq_true (show vC I 6 5 i = 0 from a0), decide_eq_true (show vC I 6 0 i = e from b)]; rfl
          rw [if_neg (fun z => z b), k82_44 hi0, ez, h1 u]
        · have u : uSh (vC I 6) n e i = false := by unfold uSh; rw [if_neg a1, decide_eq_false (show ¬ vC I 6 0 i = e from b), Bool.and_false]
          rw [if_pos b, k82_48 hi0, ez, h0 u]
      · rw [if_pos a0, k82_53 hi0, ez, zfw_ne (t := 10) (by decide)]
        by_cases a1 : I 10 i = 1
        · have c17' := c17 (X := X) (I := zfw I 154 0 (fun i => zb (uSh (vC I 6) n e i)) i) (n := n) (m := i) (e := e) hn (by rw [hcell i 5 (by decide)]; exact hs) (by omega)
          rw [if_neg (fun z => z a1), k82_70, c17', zcb_some, zn_one, k82_77, vEq_sOp hvi hi2]
          by_cases b : sOp (vC I 6) n i e = true
          · have u : uSh (vC I 6) n e i = false := by unfold uSh; rw [if_pos (show vC I 6 5 i = 1 from a1), b]; rfl
            rw [b, zb_t, if_pos (by decide), k82_84 hi0, ez, h0 u]
          · rw [Bool.not_eq_true] at b
            have u : uSh (vC I 6) n e i = true := by unfold uSh; rw [if_pos (show vC I 6 5 i = 1 from a1), b]; rfl
            rw [b, zb_f, if_neg (by decide), k82_80 hi0, ez, h1 u]
        · have u : uSh (vC I 6) n e i = false := by unfold uSh; rw [if_neg (show ¬ vC I 6 5 i = 1 from a1), decide_eq_false (show ¬ vC I 6 5 i = 0 from a0)]; rfl
          rw [if_pos a1, k82_84 hi0, ez, h0 u]
  have h1 := h n 0 (by omega)
  have h0 : nI 0 = 0 := nI_0
  rw [zfw_0, h0] at h1
  have hvc : vEq (vC (zfw I 154 0 (fun i => zb (uSh (vC I 6) n e i)) n) 6) (vC I 6) n := vEq_cells (fun q q1 q2 => hcell n q (by omega)) (fun _ _ _ _ => rfl)
  have hU : ∀ i, i < n → zfw I 154 0 (fun i => zb (uSh (vC I 6) n e i)) n 154 i = zb (uSh (vC I 6) n e i) := fun i hi => zfw_le hi
  have hu2 : okU t n (vC (zfw I 154 0 (fun i => zb (uSh (vC I 6) n e i)) n) 6) (zfw I 154 0 (fun i => zb (uSh (vC I 6) n e i)) n 154) := by
    refine ⟨hu.1, fun i hi => wM_at (fun w hw => (hvc i w hi hw).symm) (hu.2.1 i hi), fun i j hi hj hij a b => ?_⟩
    rw [hU i hi] at a
    rw [hU j hj] at b
    rw [vEq_sC hvc hi hj]
    exact hu.2.2 i j hi hj hij a b
  obtain ⟨J, j1, j2, j3, j4⟩ := c83 (X := X) (I := zfw I 154 0 (fun i => zb (uSh (vC I 6) n e i)) n) hn (by rw [hcell n 5 (by decide)]; exact hs) (by rw [hcell n 3 (by decide)]; exact hT) hu2
  have e' : sPr (zfw I 154 0 (fun i => zb (uSh (vC I 6) n e i)) n 4) (vC (zfw I 154 0 (fun i => zb (uSh (vC I 6) n e i)) n) 6) (Lc (zfw I 154 0 (fun i => zb (uSh (vC I 6) n e i)) n)) (zfw I 154 0 (fun i => zb (uSh (vC I 6) n e i)) n 154) n t = sPr (I 4) (vC I 6) (Lc I) (fun i => zb (uSh (vC I 6) n e i)) n t := by
    refine sPr_at (fun g hg => by rw [hcell n 4 (by decide)]) hvc (fun i hi => ?_) hU
    unfold Lc pN
    rw [hvc i 4 hi (by decide), hcell n 12 (by decide)]
  rw [e'] at j3 j4
  refine ⟨J, ?_, fun q hq => ?_, j3, j4⟩
  · rw [h1, k82_92, j1, zcb_some, zn_nil, k82_97]
  · rw [j2 q (by omega) (by omega) (by omega) (by omega)]
    exact hcell n q (by omega)
/-- one of a row of letters, or none -/
theorem c80n {l : Nat} {v : Int32} (hl : l ≤ 180) (h1 : I 153 4 = nI l) (h : v < 0 ∨ nI l ≤ v) : zr X 80 0 [.ref 153, .int v] [] (zk I) = some (some (.int (-1)), zk I) := by
  rw [k80_0]
  by_cases h0 : v < 0
  · rw [if_pos h0, k80_21]
  · rw [if_neg h0, k80_4, h1, if_pos (h.resolve_left h0), k80_21]
theorem c80y {l k : Nat} (hl : l ≤ 180) (h1 : I 153 4 = nI l) (h : k < l) : zr X 80 0 [.ref 153, .int (nI k)] [] (zk I) = some (some (.int (I 157 k)), zk I) := by
  rw [k80_0, if_neg (nI_pos (by omega)), k80_4, h1, if_neg (nI_ge h (by omega)), k80_12 (zin_nI (by omega) (by decide)), zx_nI (by omega)]
theorem m116b {l : Nat} {v : Int32} (hl : l ≤ 180) (h : v < 0 ∨ nI l ≤ v) : zr X 116 0 [.int v, .int 0, .int (nI l - 1)] [] (zk I) = some (some (.int 0), zk I) := by
  rw [m116]
  rcases h with h | h
  · simp [h, zb]
  · have e : nI l - 1 < nI l := by
      have hx : ∀ n : Nat, n ≤ 180 → nI n - 1 < nI n := by decide +kernel
      exact hx l hl
    simp [Int32.lt_of_lt_of_le e h, zb]
theorem m116g {l k : Nat} (hl : l ≤ 180) (h : k < l) : zr X 116 0 [.int (nI k), .int 0, .int (nI l - 1)] [] (zk I) = some (some (.int 1), zk I) := by
  rw [show nI l - 1 = nI (l - 1) from zI_sub (b := 1) (by omega)]
  exact m116y (by omega) (by omega)
theorem sLt_len {i : Nat} : (sLt I i).length = pN (vM I) i := by
  unfold sLt pN
  simp
/-- letters of the class's marks are the reference's -/
theorem hK_L {S : Nat → Int32} {n i : Nat} (h : hK I 2 S) (hn : zx (S 66) = n) (hv : vEq (vC I 6) (vR S) n) (hS : I 161 = S) (hi : i < n) : Lc I i = sLt I i := by
  unfold Lc sLt pN
  rw [vM_vR, hS, hv i 4 hi (by decide)]
  refine List.map_congr_left (fun k hk => ?_)
  rw [List.mem_range] at hk
  exact h.2.2 i k (by rw [hn]; exact hi) hk
/-- what both print, or show -/
theorem zPrn {c t n : Nat} (hI : Inv c I) (hk : wK (I 161) t n) (ht : I 3 1 = nI t) (hv : vEq (vC I 6) (vR (I 161)) n) {U U' : Nat → Int32} (hU : ∀ i, i < n → U i = U' i) : sPr (I 4) (vC I 6) (Lc I) U n t = sPr (fun g => I 161 (1 + g)) (vM I) (sLt I) U' n t := by
  refine sPr_at (fun g hg => ?_) hv (fun i hi => hK_L hI.1.1.2.1 (wK_n hk) hv rfl hi) hU
  exact hI.1.1.1.2 g (by rw [wK_t hk]; exact hg)
theorem zlw_mQ {l : List Int32} {g : Nat → Int32} {n : Nat} : mQ I (zlw (zfw I 167 0 g n) l) := by
  refine ⟨fun t ht => ?_, ?_, ?_, ?_, ?_, ?_, ?_, ?_⟩
  · rw [zlw_ne (by omega) (by omega), zfw_ne (by omega)]
  · rw [zlw_160 (by decide), zfw_ne (by decide)]
  · rw [zlw_160 (by decide), zfw_ne (by decide)]
  all_goals rw [zlw_ne (by decide) (by decide), zfw_ne (by decide)]
theorem p_letter {c : Nat} (hI : Inv c I) (v w : Int32) : Call X c I 97 [.ref 1, .int v, .int w] 157 [.ref 160, .int v, .int w] := by
  obtain ⟨t, n, hk, ht, hs, hv⟩ := inv_b hI
  have hn : n ≤ 20 := hk.2.1
  have ht60 : t ≤ 60 := hk.1
  have hS : I 161 66 = nI n := hk.2.2.2.1
  have hT : I 161 0 = nI t := hk.2.2.1
  have hend := inv_q hI cQ_rf (mQ_th (v := 0))
  by_cases h0 : v = 0
  · rcases mk_cases (n := t) (by omega) w with hb | ⟨k, hk2, rfl⟩
    · refine ⟨-1, I, zs1 I 160 0 0, ?_, ?_, hend⟩
      · rw [k97_0, if_neg (fun z => z h0), k97_4, k67_0]
        by_cases q : w < 0
        · rw [if_pos q, k67_21, zcb_some, zn_one, k97_15]
        · rw [if_neg q, k67_4, ht, if_pos (hb.resolve_left q), k67_21, zcb_some, zn_one, k97_15]
      · rw [k157_0, if_neg (fun z => z h0), k157_9, th_161, hT, m116b (by omega) hb, zcb_some, zn_one, k157_22, if_pos rfl, k157_36]
    · have e1 : (1 : Int32) + nI k = nI (1 + k) := by rw [zI_add]; rfl
      refine ⟨I 161 (1 + k), I, zs1 I 160 0 0, ?_, ?_, hend⟩
      · rw [k97_0, if_neg (fun z => z h0), k97_4, k67_0, if_neg (nI_pos (by omega)), k67_4, ht, if_neg (nI_ge hk2 (by omega)), k67_12 (zin_nI (by omega) (by decide)), zx_nI (by omega), zcb_some, zn_one, k97_15, show I 4 k = I 161 (1 + k) from hI.1.1.1.2 k (by rw [wK_t hk]; exact hk2)]
      · rw [k157_0, if_neg (fun z => z h0), k157_9, th_161, hT, m116g (by omega) hk2, zcb_some, zn_one, k157_22, if_neg (by decide), k157_25 (by rw [e1]; exact zin_nI (by omega) (by decide)), e1, zx_nI (by omega), th_161]
  · by_cases h1 : v = 1
    · have hokc : okU t n (vC I 6) (fun i => zb (decide (vC I 6 5 i = 1))) := okU_pr ht60 (wMs_at (fun i w hi hw => (hv i w hi hw).symm) hk.2.2.2.2.1)
      obtain ⟨J, j1, j2, j3, j4⟩ := c81 (X := X) hn hs ht hokc
      have hpr := zPrn hI hk ht hv (U := fun i => zb (decide (vC I 6 5 i = 1))) (U' := fun i => zb (decide (vM I 5 i = 1))) (fun i hi => by
        rw [hv i 5 hi (by decide)]
        rfl)
      rw [hpr] at j3 j4
      have hwi : ∀ i, i < n → wM t (vM I) i := hk.2.2.2.2.1.1
      have hlen := sPr_180 (T := fun g => I 161 (1 + g)) (V := vM I) (Lt := sLt I) (U := fun i => zb (decide (vM I 5 i = 1))) ht60 hn hwi (fun i hi => sLt_len)
      have hJ : ∀ t, 160 ≤ t → J t = I t := fun t ht => j2 t (by omega)
      have hJM : ∀ q, 161 ≤ q → zs1 J 160 0 0 q = I q := fun q hq => (zs1_ne (by omega)).trans (hJ q (by omega))
      have hvJ : vM (zs1 J 160 0 0) = vM I := by
        rw [vM_th]
        funext w i
        unfold vM
        rw [hJ _ (by decide)]
      have hLJ : sLt (zs1 J 160 0 0) = sLt I := by
        funext i
        unfold sLt
        rw [hvJ]
      have m133' := m133 (X := X) (I := zs1 J 160 0 0) (n := n) (t := t) hn ht60 (by rw [hJM _ (by decide)]; exact hS) (by rw [hJM _ (by decide)]; exact hT) (by rw [hvJ]; exact fun i hi => wM_p (hwi i hi)) (by rw [hvJ, hLJ, hJM _ (by decide)]; exact hlen)
      rw [hvJ, hLJ, hJM 161 (by decide)] at m133'
      generalize hl : sPr (fun g => I 161 (1 + g)) (vM I) (sLt I) (fun i => zb (decide (vM I 5 i = 1))) n t = l at j3 j4 hlen m133'
      have hend2 : Inv (c + 1) (zlw (zfw (zs1 J 160 0 0) 167 0 (fun i => zb (decide (vM I 5 i = 1))) n) l) := inv_q (I1 := J) hI (fun t ht => j2 t (by omega)) (mQ_tr mQ_th zlw_mQ)
      have hcl : ∀ r, zr X 80 0 [.ref 153, .int w] [] (zk J) = some (some (.int r), zk J) → zr X 97 0 [.ref 1, .int v, .int w] [] (zk I) = some (some (.int r), zk J) := by
        intro r h
        rw [k97_0, if_pos h0, k97_16, if_neg (fun z => z h1), k97_21, j1, zcb_some, zn_nil, k97_32, h, zcb_some, zn_one, k97_40]
      have hml : ∀ r, zr X 157 50 [.ref 160, .int v, .int w] [] (zk (zlw (zfw (zs1 J 160 0 0) 167 0 (fun i => zb (decide (vM I 5 i = 1))) n) l)) = r → zr X 157 0 [.ref 160, .int v, .int w] [] (zk J) = r := by
        intro r h
        rw [k157_0, if_pos h0, k157_38, if_pos h1, k157_46, m133', zcb_some, zn_nil, h]
      rcases mk_cases2 l.length (by omega) w with hb | ⟨k, hk2, rfl⟩
      · exact ⟨-1, J, _, hcl _ (c80n hlen j3 hb), hml _ (by rw [k157_50, zlw_len, m116b hlen hb, zcb_some, zn_one, k157_61, if_pos rfl, k157_73]), hend2⟩
      · refine ⟨l.getD k 0, J, _, hcl _ ?_, hml _ ?_, hend2⟩
        · rw [c80y hlen j3 hk2, j4 k hk2]
        · rw [k157_50, zlw_len, m116g hlen hk2, zcb_some, zn_one, k157_61, if_neg (by decide), k157_64 (zin_nI (by omega) (by decide)), zx_nI (by omega), zlw_out hk2]
    · refine ⟨-2, I, zs1 I 160 0 0, ?_, ?_, hend⟩
      · rw [k97_0, if_pos h0, k97_16, if_pos h1, k97_41]
      · rw [k157_0, if_pos h0, k157_38, if_neg h1, k157_43]
end V4
