/-! which marks go on to the next text, and their rows there -/
def stay (V : Nat → Nat → Int32) (n i : Nat) : Bool := decide (V 5 i = 0) && !sAny V n i 1
def nB (V : Nat → Nat → Int32) (n i : Nat) : Nat := cg V n false (bN V i)
def nA (V : Nat → Nat → Int32) (n i : Nat) : Nat := if kN V i = 1 then nB V n i else cg V n true (aN V i)
def vS (V : Nat → Nat → Int32) (n : Nat) (w i : Nat) : Int32 := if stay V n i = true then (if w = 2 then nI (nA V n i) else if w = 3 then nI (nB V n i) else V w i) else V w i
theorem vS_w {V : Nat → Nat → Int32} {n w i : Nat} (h2 : w ≠ 2) (h3 : w ≠ 3) : vS V n w i = V w i := by
  unfold vS
  rw [if_neg h2, if_neg h3]
  split <;> rfl
theorem vS_2 {V : Nat → Nat → Int32} {n i : Nat} (h : stay V n i = true) : vS V n 2 i = nI (nA V n i) := by
  unfold vS
  rw [if_pos h, if_pos rfl]
theorem vS_3 {V : Nat → Nat → Int32} {n i : Nat} (h : stay V n i = true) : vS V n 3 i = nI (nB V n i) := by
  unfold vS
  rw [if_pos h, if_neg (by decide), if_pos rfl]
theorem vS_no {V : Nat → Nat → Int32} {n w i : Nat} (h : stay V n i = false) : vS V n w i = V w i := by
  unfold vS
  rw [h]
  rfl
theorem stay_0 {V : Nat → Nat → Int32} {n i : Nat} (h : stay V n i = true) : V 5 i = 0 := by
  unfold stay at h
  rw [Bool.and_eq_true] at h
  exact of_decide_eq_true h.1
/-- no accepted one clashes with it -/
theorem stay_no {V : Nat → Nat → Int32} {n i j : Nat} (hn : n ≤ 20) (h : stay V n i = true) (hi : i < n) (hj : j < n) (h5 : V 5 j = 1) : sC V i j = false := by
  have h0 := stay_0 h
  unfold stay at h
  rw [Bool.and_eq_true, Bool.not_eq_true'] at h
  have h1 := (zan_false n 0).mp h.2 j (Nat.zero_le _) (by omega)
  have hij : j ≠ i := by
    rintro rfl
    rw [h0] at h5
    exact absurd h5 (by decide)
  rw [beq_eq_false_iff_ne.mpr (fun z => hij ((nI_inj (by omega) (by omega)).mp z)), h5] at h1
  simpa using h1
theorem stay_in {t n i j : Nat} {V : Nat → Nat → Int32} (ht : t ≤ 60) (hn : n ≤ 20) (hw : ∀ i, i < n → wM t V i) (h : stay V n i = true) (hi : i < n) (hj : j < n) (h5 : V 5 j = 1) : ¬ (aN V j < aN V i ∧ aN V i < bN V j) ∧ ¬ (aN V j < bN V i ∧ bN V i < bN V j) ∧ (kN V i ≠ 1 → ¬ (aN V j ≤ aN V i ∧ aN V i < bN V j)) := by
  obtain ⟨c1, c2, c3⟩ := sC_no (hw i hi) (hw j hj) ht (stay_no hn h hi hj h5)
  have wi := wM_N (hw i hi) ht
  have wj := wM_N (hw j hj) ht
  by_cases k : kN V i = 1
  · by_cases q : kN V j = 1
    · exact ⟨by omega, by omega, fun z => absurd k z⟩
    · have := c2 k q
      exact ⟨by omega, by omega, fun z => absurd k z⟩
  · by_cases q : kN V j = 1
    · exact ⟨by omega, by omega, fun _ => by omega⟩
    · have := c3 k q
      exact ⟨by omega, by omega, fun _ => by omega⟩
theorem lo_no {t n p : Nat} {V : Nat → Nat → Int32} (ht : t ≤ 60) (hw : ∀ i, i < n → wM t V i) (hp : p ≤ 60) (h : ∀ j, j < n → V 5 j = 1 → ¬ (aN V j ≤ p ∧ p < bN V j)) : lo V n p = false := by
  unfold lo sLo
  rw [zan_false]
  intro j _ hj
  rw [Bool.eq_false_iff]
  intro z
  have z2 := (pLo_iff (hw j (by omega)) ht hp).mp z
  exact h j (by omega) (zb_nz.mp z2.1) z2.2
/-- the gaps of one that stays -/
theorem nAB {t n i : Nat} {V : Nat → Nat → Int32} (hn : n ≤ 20) (hu : okU t n V (fun i => zb (decide (V 5 i = 1)))) (h : stay V n i = true) (hi : i < n) : nA V n i ≤ nB V n i ∧ nB V n i ≤ cg V n true t ∧ (kN V i = 1 ↔ nA V n i = nB V n i) := by
  have ht := hu.1
  have wi := wM_N (hu.2.1 i hi) ht
  have h1 : nB V n i ≤ cg V n true t := cg_mono (by
    rcases Nat.lt_or_ge (bN V i) t with z | z
    · exact Or.inl z
    · exact Or.inr ⟨by omega, fun _ => rfl⟩)
  by_cases k : kN V i = 1
  · have e : nA V n i = nB V n i := by unfold nA; rw [if_pos k]
    exact ⟨Nat.le_of_eq e, h1, fun _ => e, fun _ => k⟩
  · have hl : lo V n (aN V i) = false := lo_no ht hu.2.1 (by omega) (fun j hj h5 => (stay_in ht hn hu.2.1 h hi hj h5).2.2 k)
    have e : nA V n i < nB V n i := by
      unfold nA
      rw [if_neg k]
      exact cg_lt (by omega) hl
    exact ⟨Nat.le_of_lt e, h1, fun z => absurd z k, fun z => by omega⟩
theorem wM_stay {t t' n i : Nat} {V : Nat → Nat → Int32} (hn : n ≤ 20) (hu : okU t n V (fun i => zb (decide (V 5 i = 1)))) (ht' : cg V n true t ≤ t') (h : stay V n i = true) (hi : i < n) : wM t' (vS V n) i := by
  obtain ⟨a1, a2, a3⟩ := nAB hn hu h hi
  obtain ⟨e, k, a, b, p, q, g0, g1, g2, g3, g4, g5, r1, r2, r3, r4, r5, r6, r7, r8⟩ := hu.2.1 i hi
  have ek : kN V i = k := by unfold kN; rw [g1]; exact zx_nI (by omega)
  rw [ek] at a3
  exact ⟨e, k, nA V n i, nB V n i, p, q, (vS_w (by decide) (by decide)).trans g0, (vS_w (by decide) (by decide)).trans g1, vS_2 h, vS_3 h, (vS_w (by decide) (by decide)).trans g4, (vS_w (by decide) (by decide)).trans g5, r1, r2, a1, Nat.le_trans a2 ht', r5, r6, a3, r8⟩
/-- marks that don't clash -/
theorem sC_ok {t : Nat} {V : Nat → Nat → Int32} {i j : Nat} (hi : wM t V i) (hj : wM t V j) (ht : t ≤ 60) (h1 : kN V i = 1 → kN V j = 1 → aN V i ≠ aN V j) (h2 : kN V i = 1 → kN V j ≠ 1 → ¬ (aN V j < aN V i ∧ aN V i < bN V j)) (h3 : kN V i ≠ 1 → kN V j = 1 → ¬ (aN V i < aN V j ∧ aN V j < bN V i)) (h4 : kN V i ≠ 1 → kN V j ≠ 1 → ¬ (aN V i < bN V j ∧ aN V j < bN V i)) : sC V i j = false := by
  obtain ⟨i1, i2, i3, i4, i5, i6, i7, -⟩ := wM_N hi ht
  obtain ⟨j1, j2, j3, j4, j5, j6, j7, -⟩ := wM_N hj ht
  unfold sC sCl
  rw [i1, i2, i3, j1, j2, j3, show (1 : Int32) = nI 1 from rfl]
  by_cases a : kN V i = 1
  · by_cases b : kN V j = 1
    · rw [if_pos (by rw [a]), if_pos (by rw [b])]
      exact decide_eq_false (fun z => h1 a b ((nI_inj (by omega) (by omega)).mp z))
    · rw [if_pos (by rw [a]), if_neg (fun z => b ((nI_inj (by omega) (by omega)).mp z)), decide_eq_decide.mpr (nI_lt_iff (by omega) (by omega)), decide_eq_decide.mpr (nI_lt_iff (by omega) (by omega)), ← Bool.decide_and]
      exact decide_eq_false (h2 a b)
  · by_cases b : kN V j = 1
    · rw [if_neg (fun z => a ((nI_inj (by omega) (by omega)).mp z)), if_pos (by rw [b]), decide_eq_decide.mpr (nI_lt_iff (by omega) (by omega)), decide_eq_decide.mpr (nI_lt_iff (by omega) (by omega)), ← Bool.decide_and]
      exact decide_eq_false (h3 a b)
    · rw [if_neg (fun z => a ((nI_inj (by omega) (by omega)).mp z)), if_neg (fun z => b ((nI_inj (by omega) (by omega)).mp z)), decide_eq_decide.mpr (nI_lt_iff (by omega) (by omega)), decide_eq_decide.mpr (nI_lt_iff (by omega) (by omega)), ← Bool.decide_and]
      exact decide_eq_false (h4 a b)
theorem vS_k {V : Nat → Nat → Int32} {n i : Nat} : kN (vS V n) i = kN V i := by
  unfold kN
  rw [vS_w (by decide) (by decide)]
theorem cg_120 {t n g : Nat} {f : Bool} {V : Nat → Nat → Int32} (ht : t ≤ 60) (hn : n ≤ 20) (hw : ∀ i, i < n → wM t V i) (hg : g ≤ 60) : cg V n f g ≤ 180 := by
  unfold cg
  have h1 := zct_le (fun p => !lo V n p) g
  have h2 : zsm (fun i => if (acc V i && qB V f g i) = true then pN V i else 0) n ≤ n * 6 := zsm_le (fun i hi => by
    have := wM_N (hw i hi) ht
    split <;> omega)
  omega
theorem vS_ab {t n i : Nat} {V : Nat → Nat → Int32} (hn : n ≤ 20) (hu : okU t n V (fun i => zb (decide (V 5 i = 1)))) (h : stay V n i = true) (hi : i < n) : aN (vS V n) i = nA V n i ∧ bN (vS V n) i = nB V n i := by
  have ht := hu.1
  have wi := wM_N (hu.2.1 i hi) ht
  have h1 : nB V n i ≤ 180 := cg_120 ht hn hu.2.1 (by omega)
  have h2 := (nAB hn hu h hi).1
  unfold aN bN
  rw [vS_2 h, vS_3 h]
  exact ⟨zx_nI (by omega), zx_nI (by omega)⟩
/-- two that stay don't clash then if they didn't, but for twins -/
theorem sC_stay {t t' n i j : Nat} {V : Nat → Nat → Int32} (hn : n ≤ 20) (hu : okU t n V (fun i => zb (decide (V 5 i = 1)))) (ht' : cg V n true t ≤ t') (ht2 : t' ≤ 60) (hi : i < n) (hj : j < n) (si : stay V n i = true) (sj : stay V n j = true) (hc : sC V i j = false) (htw : kN V i = 1 → kN V j = 1 → nA V n i ≠ nA V n j) : sC (vS V n) i j = false := by
  have ht := hu.1
  have wi := wM_N (hu.2.1 i hi) ht
  have wj := wM_N (hu.2.1 j hj) ht
  obtain ⟨ai, bi⟩ := vS_ab hn hu si hi
  obtain ⟨aj, bj⟩ := vS_ab hn hu sj hj
  obtain ⟨c1, c2, c3⟩ := sC_no (hu.2.1 i hi) (hu.2.1 j hj) ht hc
  obtain ⟨d1, d2, d3⟩ := sC_no (hu.2.1 j hj) (hu.2.1 i hi) ht (by rw [sC_comm]; exact hc)
  have hm : ∀ {f f' : Bool} {g g' : Nat}, g ≤ g' → (f = true → f' = true) → cg V n f g ≤ cg V n f' g' := by
    intro f f' g g' h h2
    refine cg_mono ?_
    rcases Nat.lt_or_ge g g' with z | z
    · exact Or.inl z
    · exact Or.inr ⟨by omega, h2⟩
  refine sC_ok (wM_stay hn hu ht' si hi) (wM_stay hn hu ht' sj hj) ht2 ?_ ?_ ?_ ?_ <;> rw [vS_k, vS_k, ai, aj]
  · exact htw
  · intro k1 k2
    rw [bj]
    unfold nA
    rw [if_pos k1, if_neg k2]
    unfold nB
    have := c2 k1 k2
    rcases Nat.lt_or_ge (aN V j) (aN V i) with z | z
    · have h1 := hm (f := false) (f' := false) (show bN V j ≤ bN V i by omega) id
      omega
    · have h1 := hm (f := false) (f' := true) (show bN V i ≤ aN V j by omega) (fun _ => rfl)
      omega
  · intro k1 k2
    rw [bi]
    unfold nA
    rw [if_neg k1, if_pos k2]
    unfold nB
    have := d2 k2 k1
    rcases Nat.lt_or_ge (aN V i) (aN V j) with z | z
    · have h1 := hm (f := false) (f' := false) (show bN V i ≤ bN V j by omega) id
      omega
    · have h1 := hm (f := false) (f' := true) (show bN V j ≤ aN V i by omega) (fun _ => rfl)
      omega
  · intro k1 k2
    rw [bi, bj]
    unfold nA
    rw [if_neg k1, if_neg k2]
    unfold nB
    have := c3 k1 k2
    rcases Nat.lt_or_ge (aN V i) (bN V j) with z | z
    · have h1 : cg V n false (bN V i) ≤ cg V n true (aN V j) := hm (by omega) (fun _ => rfl)
      omega
    · have h1 : cg V n false (bN V j) ≤ cg V n true (aN V i) := hm z (fun _ => rfl)
      omega
