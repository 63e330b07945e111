/-! how marks are: what changes of it keep; refuse, accept -/
def sHow (n : Nat) (S S' : Nat → Int32) : Prop := (∀ k, k < 67 ∨ 307 ≤ k → S' k = S k) ∧ ∀ i w, i < n → w < 12 → w ≠ 5 → vR S' w i = vR S w i
theorem sHow_rf {n : Nat} {S : Nat → Int32} : sHow n S S := ⟨fun _ _ => rfl, fun _ _ _ _ _ => rfl⟩
theorem sHow_tr {n : Nat} {S T U : Nat → Int32} (h : sHow n S T) (h2 : sHow n T U) : sHow n S U := ⟨fun k hk => (h2.1 k hk).trans (h.1 k hk), fun i w a b c => (h2.2 i w a b c).trans (h.2 i w a b c)⟩
theorem sHow_sC {n i j : Nat} {S S' : Nat → Int32} (h : sHow n S S') (hi : i < n) (hj : j < n) : sC (vR S') i j = sC (vR S) i j := by
  unfold sC
  rw [h.2 i 1 hi (by decide) (by decide), h.2 i 2 hi (by decide) (by decide), h.2 i 3 hi (by decide) (by decide), h.2 j 1 hj (by decide) (by decide), h.2 j 2 hj (by decide) (by decide), h.2 j 3 hj (by decide) (by decide)]
theorem sHow_sG {n i : Nat} {S S' : Nat → Int32} (h : sHow n S S') (hi : i < n) : sG (vR S') i = sG (vR S) i := by
  unfold sG
  rw [h.2 i 4 hi (by decide) (by decide), h.2 i 2 hi (by decide) (by decide), h.2 i 3 hi (by decide) (by decide)]
theorem wMs_how {t n : Nat} {S S' : Nat → Int32} (h : sHow n S S') (hw : wMs t n (vR S)) (h3 : ∀ i, i < n → ∃ q, q < 3 ∧ vR S' 5 i = nI q) (h2 : ∀ i, i < n → vR S' 5 i ≠ 2 → vR S 5 i ≠ 2) (h1 : ∀ i j, i < n → j < n → i ≠ j → vR S' 5 i = 1 → vR S' 5 j = 1 → sC (vR S) i j = false) : wMs t n (vR S') := by
  obtain ⟨a1, a2, a3⟩ := hw
  refine ⟨fun i hi => ?_, fun i j hi hj hij b1 b2 b3 => ?_, fun i j hi hj hij b1 b2 => ?_⟩
  · obtain ⟨e, k, a, b, p, q, g0, g1, g2, g3, g4, g5, r1, r2, r3, r4, r5, r6, r7, r8⟩ := a1 i hi
    obtain ⟨q', hq, hq5⟩ := h3 i hi
    refine ⟨e, k, a, b, p, q', ?_, ?_, ?_, ?_, ?_, hq5, r1, r2, r3, r4, r5, hq, r7, r8⟩
    · rw [h.2 i 0 hi (by decide) (by decide)]; exact g0
    · rw [h.2 i 1 hi (by decide) (by decide)]; exact g1
    · rw [h.2 i 2 hi (by decide) (by decide)]; exact g2
    · rw [h.2 i 3 hi (by decide) (by decide)]; exact g3
    · rw [h.2 i 4 hi (by decide) (by decide)]; exact g4
  · rw [sHow_sC h hi hj]
    refine a2 i j hi hj hij ?_ (h2 i hi b2) (h2 j hj b3)
    rw [← h.2 i 0 hi (by decide) (by decide), ← h.2 j 0 hj (by decide) (by decide)]
    exact b1
  · rw [sHow_sC h hi hj]
    exact h1 i j hi hj hij b1 b2
theorem wK_how {t n : Nat} {S S' : Nat → Int32} (h : sHow n S S') (hw : wK S t n) (hm : wMs t n (vR S')) (hs : ¬ (60 : Int32) < sGs (vR S') n (S 0)) : wK S' t n := by
  obtain ⟨h1, h2, h3, h4, h5, h6⟩ := hw
  refine ⟨h1, h2, (h.1 0 (Or.inl (by decide))).trans h3, (h.1 66 (Or.inl (by decide))).trans h4, hm, ?_⟩
  rw [h.1 0 (Or.inl (by decide))]
  exact hs
theorem wS_how {c t n : Nat} {S S' : Nat → Int32} (h : sHow n S S') (hk : wK S' t n) (hw : wS c S) : wS c S' := ⟨⟨t, n, hk⟩, wE_c (fun k k1 k2 => h.1 k (Or.inl (by omega))) hw.2.1, wV_c (fun k k1 k2 => h.1 k (Or.inr k1)) hw.2.2⟩
theorem hR_how {c t n : Nat} {I J : Nat → Nat → Int32} {S S' : Nat → Int32} (h : sHow n S S') (hk : wK S t n) (hw : wS c S) (hc : ∀ q, 3 ≤ q → q ≤ 16 → q ≠ 10 → J q = I q) (h10 : ∀ i, i < n → J 10 i = vR S' 5 i) (hr : hR I 2 S) : hR J 2 S' := by
  obtain ⟨h1, h2, h3, h4⟩ := hr
  refine ⟨hT_c hk.1 hk.2.2.1 (hc 3 (by decide) (by decide) (by decide)) (hc 4 (by decide) (by decide) (by decide)) (fun k hk => h.1 k (Or.inl (by omega))) h1, hK_5 (wK_n hk) (congrFun (hc 5 (by decide) (by decide) (by decide)) 7) (fun q q1 q2 q3 => hc q (by omega) (by omega) q3) (h.1 66 (Or.inl (by decide))) (fun i w a b c => h.2 i w a b c) h10 (fun i hi => (wM_p (hk.2.2.2.2.1.1 i hi)).1) h2, hE_c (hc 16 (by decide) (by decide) (by decide)) (fun k k1 k2 => h.1 k (Or.inl (by omega))) h3, hV_c hw.2.2 (hc 13 (by decide) (by decide) (by decide)) (hc 14 (by decide) (by decide) (by decide)) (hc 15 (by decide) (by decide) (by decide)) (fun k k1 k2 => h.1 k (Or.inr k1)) h4⟩
theorem sGs_S {V : Nat → Nat → Int32} {n : Nat} {a : Int32} : sGs V (n + 1) a = if V 5 n = 1 then sGs V n a + sG V n else sGs V n a := by
  unfold sGs
  rw [zfo_last, Nat.zero_add]
theorem sGs_one {V V' : Nat → Nat → Int32} {m : Nat} {a : Int32} (h1 : V' 5 m = 1) (h2 : ¬ V 5 m = 1) : ∀ n, (∀ i, i < n → sG V' i = sG V i) → (∀ i, i < n → i ≠ m → (V' 5 i = 1 ↔ V 5 i = 1)) → sGs V' n a = if m < n then sGs V n a + sG V m else sGs V n a
  | 0, _, _ => by
    rw [if_neg (Nat.not_lt_zero _)]
    rfl
  | n + 1, hg, h => by
    have ih := sGs_one (a := a) h1 h2 n (fun i hi => hg i (by omega)) (fun i hi => h i (by omega))
    rw [sGs_S, sGs_S, ih, hg n (by omega)]
    by_cases e : n = m
    · subst e
      rw [if_pos h1, if_neg h2, if_neg (Nat.lt_irrefl n), if_pos (Nat.lt_succ_self n)]
    · have hx := h n (Nat.lt_succ_self n) e
      by_cases b : V 5 n = 1
      · rw [if_pos (hx.mpr b), if_pos b]
        by_cases d : m < n
        · rw [if_pos d, if_pos (by omega), Int32.add_assoc, Int32.add_assoc, Int32.add_comm (sG V m)]
        · rw [if_neg d, if_neg (by omega)]
      · rw [if_neg (fun z => b (hx.mp z)), if_neg b]
        by_cases d : m < n
        · rw [if_pos d, if_pos (by omega)]
        · rw [if_neg d, if_neg (by omega)]
theorem sGs_same {V V' : Nat → Nat → Int32} {a : Int32} : ∀ n, (∀ i, i < n → sG V' i = sG V i) → (∀ i, i < n → (V' 5 i = 1 ↔ V 5 i = 1)) → sGs V' n a = sGs V n a
  | 0, _, _ => rfl
  | n + 1, hg, h => by
    rw [sGs_S, sGs_S, sGs_same n (fun i hi => hg i (by omega)) (fun i hi => h i (by omega)), hg n (by omega)]
    by_cases b : V 5 n = 1
    · rw [if_pos ((h n (by omega)).mpr b), if_pos b]
    · rw [if_neg (fun z => b ((h n (by omega)).mp z)), if_neg b]
/-- a mark is refused -/
def rRef (m : Nat) (S : Nat → Int32) : Nat → Int32 := upd S (67 + 12 * m + 5) 2
theorem rRef_5 {m i : Nat} {S : Nat → Int32} : vR (rRef m S) 5 i = if i = m then 2 else vR S 5 i := by
  unfold rRef
  rw [upd_at_vR (by decide) (by decide)]
  by_cases e : i = m
  · rw [if_pos ⟨rfl, e⟩, if_pos e]
  · rw [if_neg (fun z => e z.2), if_neg e]
theorem rRef_how {m n : Nat} {S : Nat → Int32} (hm : m < n) (hn : n ≤ 20) : sHow n S (rRef m S) := by
  refine ⟨fun k hk => ?_, fun i w hi hw h5 => ?_⟩
  · unfold rRef
    rw [upd_at, if_neg (by omega)]
  · unfold rRef
    rw [upd_at_vR (by decide) hw, if_neg (fun z => h5 z.1)]
theorem rRef_wK {t m n : Nat} {S : Nat → Int32} (hw : wK S t n) (hm : m < n) (h0 : vR S 5 m = 0) : wK (rRef m S) t n := by
  have hh := rRef_how (S := S) hm hw.2.1
  have hw' := hw
  obtain ⟨a1, a2, a3, a4, a5, a6⟩ := hw
  refine wK_how hh hw' (wMs_how hh a5 (fun i hi => ?_) (fun i hi h2 => ?_) (fun i j hi hj hij h1 h2 => ?_)) ?_
  · rw [rRef_5]
    by_cases e : i = m
    · rw [if_pos e]
      exact ⟨2, by decide, rfl⟩
    · rw [if_neg e]
      obtain ⟨_, _, _, _, _, q, _, _, _, _, _, g5, _, _, _, _, _, r6, _, _⟩ := a5.1 i hi
      exact ⟨q, r6, g5⟩
  · rw [rRef_5] at h2
    by_cases e : i = m
    · rw [if_pos e] at h2
      exact absurd rfl h2
    · rw [if_neg e] at h2
      exact h2
  · rw [rRef_5] at h1 h2
    by_cases e : i = m
    · rw [if_pos e] at h1
      exact absurd h1 (by decide)
    · by_cases e2 : j = m
      · rw [if_pos e2] at h2
        exact absurd h2 (by decide)
      · rw [if_neg e] at h1
        rw [if_neg e2] at h2
        exact a5.2.2 i j hi hj hij h1 h2
  · rw [sGs_same n (fun i hi => sHow_sG hh hi) (fun i hi => ?_)]
    · exact a6
    · rw [rRef_5]
      by_cases e : i = m
      · rw [if_pos e, e, h0]
        decide
      · rw [if_neg e]
/-- a mark is accepted -/
theorem rAcc_5 {n m i : Nat} {S : Nat → Int32} (hi : i < n) : vR (rAcc n m S) 5 i = if i = m then 1 else if pAcc (vR S) m i = true then 2 else vR S 5 i := by
  unfold rAcc
  rw [upd_at_vR (by decide) (by decide)]
  by_cases e : i = m
  · rw [if_pos ⟨rfl, e⟩, if_pos e]
  · rw [if_neg (fun z => e z.2), if_neg e, rCol_at (by decide), if_pos ⟨rfl, hi⟩]
theorem rAcc_how {m n : Nat} {S : Nat → Int32} (hm : m < n) (hn : n ≤ 20) : sHow n S (rAcc n m S) := by
  refine ⟨fun k hk => ?_, fun i w hi hw h5 => ?_⟩
  · unfold rAcc
    rw [upd_at, if_neg (by omega)]
    rcases hk with hk | hk
    · exact rCol_lo hk
    · exact rCol_hi (by omega)
  · unfold rAcc
    rw [upd_at_vR (by decide) hw, if_neg (fun z => h5 z.1), rCol_at hw, if_neg (fun z => h5 z.1)]
theorem pAcc_ne {V : Nat → Nat → Int32} {m i : Nat} (hm : m < 2 ^ 31) (hi : i < 2 ^ 31) : pAcc V m i = true ↔ i ≠ m ∧ V 5 i = 0 ∧ sC V m i = true := by
  unfold pAcc
  simp only [Bool.and_eq_true, Bool.not_eq_true', beq_eq_false_iff_ne, beq_iff_eq, ne_eq, nI_inj hi hm]
theorem rAcc_wK {t m n : Nat} {S : Nat → Int32} (hw : wK S t n) (hm : m < n) (hc : sCan (vR S) n (S 0) m = true) : wK (rAcc n m S) t n := by
  have hn := hw.2.1
  have hh := rAcc_how (S := S) hm hn
  have hw' := hw
  obtain ⟨a1, a2, a3, a4, a5, a6⟩ := hw
  unfold sCan at hc
  simp only [Bool.and_eq_true, decide_eq_true_eq] at hc
  obtain ⟨c0, c1, c2⟩ := hc
  have hany := (sCnt_0 hn).mp c1
  have hno : ∀ i, i < n → i ≠ m → vR S 5 i = 1 → sC (vR S) m i = false := by
    intro i hi him h1
    have h := (zan_false n 0).mp hany i (Nat.zero_le _) (by omega)
    have e : (nI i == nI m) = false := beq_eq_false_iff_ne.mpr (fun z => him ((nI_inj (by omega) (by omega)).mp z))
    rw [e, h1] at h
    simpa using h
  have h11 : ∀ i, i < n → i ≠ m → vR (rAcc n m S) 5 i = 1 → vR S 5 i = 1 := by
    intro i hi him h
    rw [rAcc_5 hi, if_neg him] at h
    by_cases p : pAcc (vR S) m i = true
    · rw [if_pos p] at h
      exact absurd h (by decide)
    · rw [if_neg p] at h
      exact h
  refine wK_how hh hw' (wMs_how hh a5 (fun i hi => ?_) (fun i hi h2 => ?_) (fun i j hi hj hij h1 h2 => ?_)) ?_
  · rw [rAcc_5 hi]
    by_cases e : i = m
    · rw [if_pos e]
      exact ⟨1, by decide, rfl⟩
    · rw [if_neg e]
      by_cases p : pAcc (vR S) m i = true
      · rw [if_pos p]
        exact ⟨2, by decide, rfl⟩
      · rw [if_neg p]
        obtain ⟨_, _, _, _, _, q, _, _, _, _, _, g5, _, _, _, _, _, r6, _, _⟩ := a5.1 i hi
        exact ⟨q, r6, g5⟩
  · rw [rAcc_5 hi] at h2
    by_cases e : i = m
    · rw [e, c0]
      decide
    · rw [if_neg e] at h2
      by_cases p : pAcc (vR S) m i = true
      · rw [if_pos p] at h2
        exact absurd rfl h2
      · rw [if_neg p] at h2
        exact h2
  · by_cases e : i = m
    · subst e
      exact hno j hj (fun z => hij z.symm) (h11 j hj (fun z => hij z.symm) h2)
    · by_cases e2 : j = m
      · subst e2
        rw [sC_comm]
        exact hno i hi e (h11 i hi e h1)
      · exact a5.2.2 i j hi hj hij (h11 i hi e h1) (h11 j hj e2 h2)
  · rw [sGs_one (V := vR S) (m := m) (by rw [rAcc_5 hm, if_pos rfl]) (by rw [c0]; decide) n (fun i hi => sHow_sG hh hi) (fun i hi him => ⟨h11 i hi him, fun z => ?_⟩), if_pos hm]
    · exact c2
    · rw [rAcc_5 hi, if_neg him, if_neg, z]
      intro p
      have := ((pAcc_ne (by omega) (by omega)).mp p).2.1
      rw [z] at this
      exact absurd this (by decide)
section B2
variable {X : Nat × (Nat → Int32)} {I : Nat → Nat → Int32}
/-- acceptOpen -/
theorem c19 {n m : Nat} (hn : n ≤ 20) (hs : I 5 7 = nI n) (hm : m < n) (h0 : I 10 m = 0) : ∃ f, zr X 19 0 [.ref 5, .int (nI m), .null, .null] [] (zk I) = some (some (.int (sN (pAcc (vC I 6) m) n)), zk (zup I 10 f)) ∧ ∀ i, i < n → f i = if i = m then 1 else if pAcc (vC I 6) m i = true then 2 else I 10 i := by
  rw [k19_0 (zin_nI (by omega) (by decide)), zx_nI (by omega), zs1_up]
  have hvw : ∀ f w, w < 6 → w ≠ 5 → vC (zup I 10 f) 6 w = vC I 6 w := by
    intro f w hw h5
    funext i
    have hw5 : w = 0 ∨ w = 1 ∨ w = 2 ∨ w = 3 ∨ w = 4 := by omega
    rcases hw5 with rfl | rfl | rfl | rfl | rfl <;> exact congrFun (zup_ne (by decide)) i
  have hsC : ∀ f i, sC (vC (zup I 10 f) 6) m i = sC (vC I 6) m i := fun f i => sC_col (fun w hw => hvw f w (by omega) (by omega))
  have hl : ∀ k i (f : Nat → Int32), i + k = n → (∀ j, j < n → f j = if j = m then 1 else if j < i ∧ pAcc (vC I 6) m j = true then 2 else I 10 j) → ∃ f', zr X 19 11 [.ref 5, .int (nI m), .int (sN (pAcc (vC I 6) m) i), .int (nI i)] [] (zk (zup I 10 f)) = some (some (.int (sN (pAcc (vC I 6) m) n)), zk (zup I 10 f')) ∧ ∀ j, j < n → f' j = if j = m then 1 else if pAcc (vC I 6) m j = true then 2 else I 10 j := by
    intro k
    induction k with
    | zero =>
      intro i f hi hf
      have e : i = n := by omega
      subst e
      refine ⟨f, ?_, fun j hj => ?_⟩
      · rw [k19_11, zup_ne (by decide), hs, if_pos (nI_le (Nat.le_refl _) (by omega)), k19_58]
      · rw [hf j hj]
        by_cases e : j = m
        · rw [if_pos e, if_pos e]
        · rw [if_neg e, if_neg e]
          by_cases p : pAcc (vC I 6) m j = true
          · rw [if_pos ⟨hj, p⟩, if_pos p]
          · rw [if_neg (fun z => p z.2), if_neg p]
    | succ k ih =>
      intro i f hi hf
      have hi2 : i < n := by omega
      have hS : sN (pAcc (vC I 6) m) (i + 1) = if pAcc (vC I 6) m i = true then sN (pAcc (vC I 6) m) i + 1 else sN (pAcc (vC I 6) m) i := by
        unfold sN
        rw [zfo_last, Nat.zero_add]
      have hskip : pAcc (vC I 6) m i = false → ∃ f', zr X 19 52 [.ref 5, .int (nI m), .int (sN (pAcc (vC I 6) m) i), .int (nI i)] [] (zk (zup I 10 f)) = some (some (.int (sN (pAcc (vC I 6) m) n)), zk (zup I 10 f')) ∧ ∀ j, j < n → f' j = if j = m then 1 else if pAcc (vC I 6) m j = true then 2 else I 10 j := by
        intro p
        rw [p, if_neg (by decide)] at hS
        rw [k19_52, ← nI_succ, ← hS]
        refine ih (i + 1) f (by omega) (fun j hj => ?_)
        rw [hf j hj]
        by_cases e : j = m
        · rw [if_pos e, if_pos e]
        · rw [if_neg e, if_neg e]
          by_cases q : j < i ∧ pAcc (vC I 6) m j = true
          · rw [if_pos q, if_pos ⟨by omega, q.2⟩]
          · rw [if_neg q, if_neg]
            rintro ⟨z1, z2⟩
            by_cases e3 : j = i
            · rw [e3, p] at z2
              cases z2
            · exact q ⟨by omega, z2⟩
      rw [k19_11, zup_ne (by decide), hs, if_neg (nI_ge hi2 (by omega)), k19_19]
      by_cases e : nI i = nI m
      · rw [if_pos e]
        exact hskip (by unfold pAcc; simp [e])
      · have e' : i ≠ m := fun z => e (by rw [z])
        have hfi : f i = I 10 i := by
          rw [hf i hi2, if_neg e', if_neg (fun z => Nat.lt_irrefl _ z.1)]
        rw [if_neg e, k19_24 (zin_nI (by omega) (by decide)), zx_nI (by omega), zup_self, hfi]
        by_cases a : I 10 i = 0
        · rw [if_neg (fun z => z a), k19_33, c12 (by omega) (by omega), zcb_some, zn_one, k19_39, hsC]
          by_cases b : sC (vC I 6) m i = true
          · have p : pAcc (vC I 6) m i = true := (pAcc_ne (by omega) (by omega)).mpr ⟨e', a, b⟩
            rw [p, if_pos rfl] at hS
            rw [b, zb_t, if_neg (by decide), k19_42 (zin_nI (by omega) (by decide)), zx_nI (by omega), zs1_zup, ← nI_succ, ← hS]
            refine ih (i + 1) _ (by omega) (fun j hj => ?_)
            rw [upd_at]
            by_cases e3 : j = i
            · subst e3
              rw [if_pos rfl, if_neg e', if_pos ⟨Nat.lt_succ_self _, p⟩]
            · rw [if_neg e3, hf j hj]
              by_cases e4 : j = m
              · rw [if_pos e4, if_pos e4]
              · rw [if_neg e4, if_neg e4]
                by_cases q : j < i ∧ pAcc (vC I 6) m j = true
                · rw [if_pos q, if_pos ⟨by omega, q.2⟩]
                · rw [if_neg q, if_neg (fun z => q ⟨by omega, z.2⟩)]
          · rw [Bool.not_eq_true] at b
            rw [b, zb_f, if_pos rfl]
            exact hskip (by unfold pAcc; rw [b]; simp)
        · rw [if_pos a]
          exact hskip (by
            have : (vC I 6 5 i == 0) = false := beq_eq_false_iff_ne.mpr a
            unfold pAcc
            rw [this]
            simp)
  have h := hl n 0 (upd (I 10) m 1) (by omega) (fun j hj => by
    rw [upd_at]
    by_cases e : j = m
    · rw [if_pos e, if_pos e]
    · rw [if_neg e, if_neg e, if_neg (fun z => Nat.not_lt_zero _ z.1)])
  exact h
end B2
