/-! judge, what if judged -/
theorem zct_diff {a b : Nat → Bool} : ∀ n, (∀ i, i < n → b i = true → a i = true) → zct a n = zct (fun i => a i && !b i) n + zct b n
  | 0, _ => rfl
  | n + 1, h => by
    have ih := zct_diff (a := a) (b := b) n (fun i hi => h i (by omega))
    have hn := h n (Nat.lt_succ_self n)
    rw [zct_s, zct_s, zct_s, ih]
    cases e1 : a n <;> cases e2 : b n
    · rfl
    · rw [hn e2] at e1
      cases e1
    · simp
      omega
    · simp
      omega
section B10
variable {X : Nat × (Nat → Int32)} {I : Nat → Nat → Int32}
/-- overMarks -/
theorem m162g {n : Nat} {e w : Int32} {its : Nat → Int32} (hn : n ≤ 20) (hs : I 161 66 = nI n) (hb : ∀ i, i < n → ∀ (a : Int32) (v5 : Value), zr X 162 17 [.ref 160, .int e, .int w, .int a, .int (nI i), v5] [] (zk I) = zr X 162 68 [.ref 160, .int e, .int w, .int a, .int (nI i), .int (its i)] [.int (vM I 0 i), .int a] (zk I)) : zr X 162 0 [.ref 160, .int e, .int w, .null, .null, .null] [] (zk I) = some (some (.int (zfo (fun i a => if vM I 0 i = e then a + its i else a) 0 n 0)), zk I) := by
  rw [k162_0]
  have hl : ∀ k i (a : Int32) (v5 : Value), i + k = n → zr X 162 5 [.ref 160, .int e, .int w, .int a, .int (nI i), v5] [] (zk I) = some (some (.int (zfo (fun i a => if vM I 0 i = e then a + its i else a) i k a)), zk I) := by
    intro k
    induction k with
    | zero =>
      intro i a v5 hi
      rw [k162_5, hs, if_pos (nI_le (by omega) (by omega)), k162_86]
      rfl
    | succ k ih =>
      intro i a v5 hi
      rw [k162_5, hs, if_neg (nI_ge (show i < n by omega) (by omega)), hb i (by omega), k162_68]
      by_cases h : vM I 0 i = e
      · rw [if_neg (fun z => z h), k162_72, ← nI_succ, ih (i + 1) _ _ (by omega)]
        show _ = some (some (Value.int (zfo _ (i + 1) k (if vM I 0 i = e then a + its i else a))), zk I)
        rw [if_pos h]
      · rw [if_pos h, k162_77, z_add0, ← nI_succ, ih (i + 1) _ _ (by omega)]
        show _ = some (some (Value.int (zfo _ (i + 1) k (if vM I 0 i = e then a + its i else a))), zk I)
        rw [if_neg h]
  have h := hl n 0 0 .null (by omega)
  have h0 : nI 0 = 0 := nI_0
  rw [h0] at h
  exact h
theorem zfo_one {p q : Nat → Bool} {n : Nat} {e : Int32} {V0 : Nat → Int32} (hp : ∀ i, i < n → (p i = true ↔ V0 i = e ∧ q i = true)) : zfo (fun i a => if V0 i = e then a + (if q i = true then 1 else 0) else a) 0 n 0 = sN p n := by
  unfold sN
  refine zfo_congr n 0 0 (fun i _ hi a => ?_)
  by_cases h : V0 i = e
  · rw [if_pos h]
    by_cases h2 : q i = true
    · rw [if_pos h2, if_pos ((hp i (by omega)).mpr ⟨h, h2⟩)]
    · rw [if_neg h2, if_neg (fun z => h2 ((hp i (by omega)).mp z).2), z_add0]
  · rw [if_neg h, if_neg (fun z => h ((hp i (by omega)).mp z).1)]
theorem m162h {n : Nat} {e w : Int32} (hn : n ≤ 20) (hs : I 161 66 = nI n) (h1 : ¬ w = 1) (h5 : ¬ w = 5) : zr X 162 0 [.ref 160, .int e, .int w, .null, .null, .null] [] (zk I) = some (some (.int (sN (fun i => vM I 0 i == e && vM I 5 i == w - 2) n)), zk I) := by
  rw [m162g (its := fun i => if (vM I 5 i == w - 2) = true then 1 else 0) hn hs (fun i hi a v5 => ?_)]
  · rw [zfo_one (p := fun i => vM I 0 i == e && vM I 5 i == w - 2) (q := fun i => vM I 5 i == w - 2) (fun i hi => by rw [Bool.and_eq_true, beq_iff_eq])]
  · rw [k162_17, if_pos h1, k162_26, if_pos h5, k162_40, m117_5 (by omega), zcb_some, zn_one, k162_47]
    by_cases b : vM I 5 i = w - 2
    · rw [if_neg (fun z => z b), k162_53, m117_0 (by omega), zcb_some, zn_one, if_pos (by rw [b]; exact beq_self_eq_true _)]
    · rw [if_pos b, k162_57, m117_0 (by omega), zcb_some, zn_one, if_neg (by simpa using b)]
theorem m162a {n : Nat} {e : Int32} (hn : n ≤ 20) (hs : I 161 66 = nI n) : zr X 162 0 [.ref 160, .int e, .int 1, .null, .null, .null] [] (zk I) = some (some (.int (sN (fun i => vM I 0 i == e) n)), zk I) := by
  rw [m162g (its := fun i => if (fun _ => true) i = true then 1 else 0) hn hs (fun i hi a v5 => ?_)]
  · rw [zfo_one (p := fun i => vM I 0 i == e) (q := fun _ => true) (fun i hi => by rw [beq_iff_eq]; exact ⟨fun z => ⟨z, rfl⟩, fun z => z.1⟩)]
  · rw [k162_17, if_neg (by decide), k162_22, m117_0 (by omega), zcb_some, zn_one]
    rfl
theorem m162q {n : Nat} {e : Int32} (hn : n ≤ 20) (hs : I 161 66 = nI n) : zr X 162 0 [.ref 160, .int e, .int 5, .null, .null, .null] [] (zk I) = some (some (.int (sQi (vM I) n e)), zk I) := by
  rw [m162g (its := fun i => sN (fun j => sQ (vM I) i j) n) hn hs (fun i hi a v5 => ?_)]
  · rfl
  · rw [k162_17, if_pos (by decide), k162_26, if_neg (by decide), k162_31, m159 hn hs (by omega), zcb_some, zn_one, k162_37, m117_0 (by omega), zcb_some, zn_one]
theorem cJ_of {c t n : Nat} (hI : Inv c I) (hk : wK (I 161) t n) (ht : I 3 1 = nI t) (hs : I 5 7 = nI n) (hv : vEq (vC I 6) (vR (I 161)) n) : cJ n I (I 161) := ⟨hs, ht.trans hk.2.2.1.symm, hv, hI.1.1.2.2.1⟩
theorem cJ_cells {n : Nat} {J : Nat → Nat → Int32} {S : Nat → Int32} (hc : ∀ q, 3 ≤ q → q ≤ 16 → J q = I q) (h : cJ n I S) : cJ n J S := by
  obtain ⟨h1, h2, h3, h4⟩ := h
  exact ⟨by rw [hc 5 (by decide) (by decide)]; exact h1, by rw [hc 3 (by decide) (by decide)]; exact h2, vEq_cells (fun q q1 q2 => hc q (by omega) (by omega)) h3, fun k hk => by rw [hc 16 (by decide) (by decide)]; exact h4 k hk⟩
theorem p_judge {c : Nat} (hI : Inv c I) : Call X c I 95 [.ref 1] 153 [.ref 160] := by
  obtain ⟨t, n, hk, ht, hs, hv⟩ := inv_b hI
  obtain ⟨R, r1, r2, r3⟩ := c1x (X := X) hI.2.1
  have hRn : ∀ q, 3 ≤ q → q ≤ 16 → R q = I q := fun q q0 q1 => r2 q (by omega) (by omega)
  have hcR := cJ_cells hRn (cJ_of hI hk ht hs hv)
  obtain ⟨Sf, f, af, y1, y2, y3, y4, y5, -⟩ := zJ_run (X := X) (M := I) hcR hk hI.1.2.2.1 rfl
  have hJ : ∀ t, 160 ≤ t → zup R 10 f t = I t := fun t ht => (zup_ne (by omega)).trans (r2 t (by omega) (by omega))
  obtain ⟨K, k1, k2, k3, k4⟩ := m121y (X := X) hI.2.1 (I1 := zs1 (zup R 10 f) 160 0 0) (by rw [th_160 (by decide), hJ _ (by decide)])
  have k161 : K 161 = I 161 := (k2 161 (by decide) (by decide)).trans ((zs1_ne (by decide)).trans (hJ _ (by decide)))
  obtain ⟨Sf', f', af', z1, z2, z3, z4, z5, z6⟩ := zJ_run (X := X) (M := K) hcR hk hI.1.2.2.1 k161
  have e1 := y1.symm.trans z1
  have e2 : af = af' := by
    have h2 : Value.int af = Value.int af' := Option.some.inj (congrArg Prod.fst (Option.some.inj e1))
    injection h2
  have e3 : zup R 10 f = zup R 10 f' := by
    have h := congrArg (fun q => q.2) (Option.some.inj e1)
    exact congrArg (fun m => m.2.2.2.2) h
  subst e2
  have hnow : ∀ q, 3 ≤ q → q ≤ 16 → q ≠ 10 → zup R 10 f q = I q := fun q q1 q2 q3 => (zup_ne q3).trans (hRn q q1 q2)
  refine ⟨af, zup R 10 f, zup K 161 Sf', ?_, ?_, inv_chg (S' := Sf') (K := K) hI r3 r2 (fun t t1 t2 => zup_ne (by omega)) ?_ (fun t t1 t2 => (k2 t t1 t2).trans (zs1_ne t1)) ?_ (fun t t1 t2 => zup_ne t1) ?_ ?_ zup_self (hR_how z3 hk hI.1.2 hnow (fun i hi => ?_) hI.1.1) (wS_how z3 z4 (wS_le hI.1.2 (Nat.le_succ c)))⟩
  · rw [k95_0, r1, zcb_some, zn_nil, k95_11, y1, zcb_some, zn_one, k95_18]
  · rw [k153_0, k1, zcb_some, zn_nil, k153_9, z6, zcb_some, zn_one, k153_13]
  · rw [zs1_ne (t := 160) (by decide), hJ 161 (by decide)] at k4
    exact k4
  · rw [k3 8 (by decide), th_160 (by decide)]
  · rw [zup_ne (by decide)]
  · rw [zup_ne (by decide)]
  · rw [e3]
    exact z2.2.2.1 i 5 hi (by decide)
/-- nothing is recorded; rows behind what is now may be others -/
theorem inv_n {c : Nat} {I1 J : Nat → Nat → Int32} (h : Inv c I) (h1 : ∀ t, 17 ≤ t → t < 144 ∨ 160 ≤ t → I1 t = I t) (b1 : ∀ t, t < 160 → J t = I1 t) (b2 : J 160 4 = I 160 4) (b3 : J 160 8 = I 160 8) (b5 : ∀ t, 163 ≤ t → t < 167 → J t = I t) (hr : hR I1 2 (J 161)) (hw : wS c (J 161)) : Inv (c + 1) J := by
  obtain ⟨⟨n1, n2⟩, hh, hl, hp⟩ := h
  have hs : ∀ t, 17 ≤ t → t < 144 → J t = I t := fun t t0 ht => (b1 t (by omega)).trans (h1 t t0 (Or.inl ht))
  exact ⟨⟨hR_cells (fun t t1 t2 => b1 t (by omega)) hr, wS_le hw (Nat.le_succ c)⟩, iH_keep (Nat.le_succ c) (hs _ (by decide) (by decide)) (fun t t1 t2 => hs t (by omega) (by omega)) b2 (b5 _ (by decide) (by decide)) hh, iL_keep (Nat.le_succ c) (hs _ (by decide) (by decide)) (b5 _ (by decide) (by decide)) (fun t t1 t2 => hs t (by omega) (by omega)) (b5 _ (by decide) (by decide)) hl, iP_keep (congrFun (hs _ (by decide) (by decide)) 1) b3 (hs _ (by decide) (by decide)) (b5 _ (by decide) (by decide)) hp⟩
theorem p_ifJudged {c : Nat} (hI : Inv c I) (v : Int32) : Call X c I 106 [.ref 1, .int v, .null] 171 [.ref 160, .int v, .null, .null] := by
  have hend := inv_q hI cQ_rf (mQ_th (v := 0))
  rcases sw_cases 5 (by decide) v with hb | ⟨j, hj, rfl⟩
  · have h3 := sw_out (by decide) hb
    refine ⟨-2, I, zs1 I 160 0 0, ?_, ?_, hend⟩
    · rw [k106_0]
      by_cases h0 : v < 0
      · rw [if_pos h0, k106_9]
      · rw [if_neg h0, k106_4, if_neg (Int32.not_le.mpr (show (5 : Int32) < v from h3.resolve_left h0)), k106_9]
    · rw [k171_0, show (5 : Int32) = nI 5 from rfl, m116n (by decide) h3, zcb_some, zn_one, k171_11, if_neg (by decide), k171_14]
  · obtain ⟨t, n, hk, ht, hs, hv⟩ := inv_b hI
    have hn : n ≤ 20 := hk.2.1
    have hS : I 161 66 = nI n := hk.2.2.2.1
    have hcA : cJ n (zs2 I 10 158 0 0 20) (I 161) := cJ_cells (fun q q1 q2 => zs2_ne (by omega)) (cJ_of hI hk ht hs hv)
    obtain ⟨Sf0, f, af0, y1, y2, y3, y4, y5, -⟩ := zJ_run (X := X) (M := I) hcA hk hI.1.2.2.1 rfl
    have e158 : ∀ i, i < 20 → zup (zs2 I 10 158 0 0 20) 10 f 158 i = I 10 i := fun i hi => by
      rw [zup_ne (by decide), zs2_self, cpy_at, if_pos (by omega), show 0 + (i - 0) = i by omega]
    have hc58 : ∀ r, zr X 106 40 [.ref 1, .int (nI j), .null] [.int af0] (zk (zup (zs2 I 10 158 0 0 20) 10 f)) = r → zr X 106 0 [.ref 1, .int (nI j), .null] [] (zk I) = r := by
      intro r h
      rw [k106_0, if_neg (nI_pos (by omega)), k106_4, if_pos (show nI j ≤ 5 from nI_le (b := 5) hj (by decide)), k106_12, y1, zcb_some, zn_one, h]
    -- the class behind it
    have hI1 : ∀ t, t ≠ 10 → t ≠ 158 → zs2 (zup (zs2 I 10 158 0 0 20) 10 f) 158 10 0 0 20 t = I t := fun t t1 t2 => by rw [zs2_ne t1, zup_ne t1, zs2_ne t2]
    have hI10 : ∀ i, i < 20 → zs2 (zup (zs2 I 10 158 0 0 20) 10 f) 158 10 0 0 20 10 i = I 10 i := fun i hi => by
      rw [zs2_self, cpy_at, if_pos (by omega), show 0 + (i - 0) = i by omega]
      exact e158 i hi
    -- the reference
    have hM0 : ∀ t, t ≠ 160 → zs1 (zs2 (zup (zs2 I 10 158 0 0 20) 10 f) 158 10 0 0 20) 160 0 0 t = zs2 (zup (zs2 I 10 158 0 0 20) 10 f) 158 10 0 0 20 t := fun t ht => zs1_ne ht
    have hM161 : zs1 (zs2 (zup (zs2 I 10 158 0 0 20) 10 f) 158 10 0 0 20) 160 0 0 161 = I 161 := (hM0 _ (by decide)).trans (hI1 _ (by decide) (by decide))
    generalize hI1e : zs2 (zup (zs2 I 10 158 0 0 20) 10 f) 158 10 0 0 20 = I1 at hI1 hI10 hM0 hM161
    have hA161 : zfw (zs1 I1 160 0 0) 162 0 (zs1 I1 160 0 0 161) 675 161 = I 161 := (zfw_ne (by decide)).trans hM161
    obtain ⟨Sf, f', af, z1, z2, z3, z4, z5, z6⟩ := zJ_run (X := X) (M := zfw (zs1 I1 160 0 0) 162 0 (zs1 I1 160 0 0 161) 675) hcA hk hI.1.2.2.1 hA161
    have e1 := y1.symm.trans z1
    have e3 : zup (zs2 I 10 158 0 0 20) 10 f = zup (zs2 I 10 158 0 0 20) 10 f' := by
      have h := congrArg (fun q => q.2) (Option.some.inj e1)
      exact congrArg (fun m => m.2.2.2.2) h
    rw [← e3] at z2
    obtain ⟨q1, q2, q3, q4⟩ := z2
    have hAf : ∀ t, t ≠ 161 → t ≠ 162 → t ≠ 160 → zfw (zup (zfw (zs1 I1 160 0 0) 162 0 (zs1 I1 160 0 0 161) 675) 161 Sf) 161 0 (zup (zfw (zs1 I1 160 0 0) 162 0 (zs1 I1 160 0 0 161) 675) 161 Sf 162) 675 t = I1 t := fun t t1 t2 t3 => by rw [zfw_ne t1, zup_ne t1, zfw_ne t2, zs1_ne t3]
    have hA160 : ∀ k, k ≠ 0 → zfw (zup (zfw (zs1 I1 160 0 0) 162 0 (zs1 I1 160 0 0 161) 675) 161 Sf) 161 0 (zup (zfw (zs1 I1 160 0 0) 162 0 (zs1 I1 160 0 0 161) 675) 161 Sf 162) 675 160 k = I 160 k := fun k k0 => by rw [zfw_ne (by decide), zup_ne (by decide), zfw_ne (by decide), th_160 k0, hI1 _ (by decide) (by decide)]
    have hze : zEq (I 161) (zfw (zup (zfw (zs1 I1 160 0 0) 162 0 (zs1 I1 160 0 0 161) 675) 161 Sf) 161 0 (zup (zfw (zs1 I1 160 0 0) 162 0 (zs1 I1 160 0 0 161) 675) 161 Sf 162) 675 161) := by
      intro k hk
      rw [zfw_eq k hk, zup_ne (by decide), zfw_eq k hk, hM161]
    have hr1 : hR I1 2 (I 161) := by
      refine hR_how (S' := I 161) sHow_rf hk hI.1.2 (fun q q1 q2 q3 => hI1 q q3 (by omega)) (fun i hi => ?_) hI.1.1
      rw [hI10 i (by omega)]
      exact hv i 5 hi (by decide)
    have hInv : Inv (c + 1) (zfw (zup (zfw (zs1 I1 160 0 0) 162 0 (zs1 I1 160 0 0 161) 675) 161 Sf) 161 0 (zup (zfw (zs1 I1 160 0 0) 162 0 (zs1 I1 160 0 0 161) 675) 161 Sf 162) 675) := by
      refine inv_n (I1 := I1) hI (fun t t1 t2 => hI1 t (by omega) (by omega)) (fun t ht => hAf t (by omega) (by omega) (by omega)) (hA160 _ (by decide)) (hA160 _ (by decide)) (fun t t1 t2 => (hAf t (by omega) (by omega) (by omega)).trans (hI1 t (by omega) (by omega))) (hR_eq hze hI.1.2 hr1) (wS_eq hze hI.1.2)
    have hS66 : Sf 66 = nI n := z4.2.2.2.1
    have hf66 : zup (zfw (zs1 I1 160 0 0) 162 0 (zs1 I1 160 0 0 161) 675) 161 Sf 161 66 = nI n := by rw [zup_self]; exact hS66
    have hA66 : zfw (zs1 I1 160 0 0) 162 0 (zs1 I1 160 0 0 161) 675 161 66 = nI n := by rw [hA161]; exact hS
    have hM17 : ∀ r, zr X 171 21 [.ref 160, .int (nI j), .null, .null] [] (zk (zfw (zs1 I1 160 0 0) 162 0 (zs1 I1 160 0 0 161) 675)) = r → zr X 171 0 [.ref 160, .int (nI j), .null, .null] [] (zk I1) = r := by
      intro r h
      rw [k171_0, show (5 : Int32) = nI 5 from rfl, m116y hj (by decide), zcb_some, zn_one, k171_11, if_pos (by decide), k171_17, m122, zcb_some, zn_nil, h]
    by_cases h5 : j = 5
    · subst h5
      refine ⟨sGs (vR Sf) n (Sf 0), I1, _, hc58 _ ?_, hM17 _ ?_, hInv⟩
      · rw [k106_40, if_neg (by decide), k106_46, c55 hn q1, zcb_some, zn_one, k106_53, q2, vEq_sGs q3, hI1e]
      · rw [k171_21, if_pos (by decide), k171_35, z6, zcb_some, zn_one, k171_41, if_pos (by decide), k171_58, m128 hn hf66, zcb_some, zn_one, k171_62, m123, zcb_some, zn_nil, k171_67, vM_vR, zup_self]
    · have hj5 : j < 5 := by omega
      have hne : ¬ nI j = 5 := fun z => h5 ((nI_inj (b := 5) (by omega) (by decide)).mp z)
      have hlt : ¬ (5 : Int32) ≤ nI j := nI_ge (b := 5) hj5 (by decide)
      have hvM1 : vM (zfw (zs1 I1 160 0 0) 162 0 (zs1 I1 160 0 0 161) 675) = vR (I 161) := by rw [vM_vR, hA161]
      refine ⟨sN (fun i => vR Sf 0 i == nI j && vR Sf 5 i == 2) n - sN (fun i => vR (I 161) 0 i == nI j && vR (I 161) 5 i == 2) n, I1, _, hc58 _ ?_, hM17 _ ?_, hInv⟩
      · rw [k106_40, if_pos hne, k106_56, c28 hn q1, zcb_some, zn_one, k106_71, hI1e]
        congr 3
        have hcnt : ∀ i, i < n → (vC (zup (zs2 I 10 158 0 0 20) 10 f) 6 0 i == nI j && (!(zup (zs2 I 10 158 0 0 20) 10 f 158 i == 2) && vC (zup (zs2 I 10 158 0 0 20) 10 f) 6 5 i == 2)) = ((vR Sf 0 i == nI j && vR Sf 5 i == 2) && !(vR (I 161) 0 i == nI j && vR (I 161) 5 i == 2)) := by
          intro i hi
          rw [q3 i 0 hi (by decide), q3 i 5 hi (by decide), e158 i (by omega), show I 10 i = vR (I 161) 5 i from hv i 5 hi (by decide), z3.2 i 0 hi (by decide) (by decide)]
          cases vR (I 161) 0 i == nI j <;> cases vR Sf 5 i == 2 <;> cases vR (I 161) 5 i == 2 <;> rfl
        rw [sN_at hcnt, sN_zct, sN_zct, sN_zct, zct_diff (a := fun i => vR Sf 0 i == nI j && vR Sf 5 i == 2) (b := fun i => vR (I 161) 0 i == nI j && vR (I 161) 5 i == 2) n (fun i hi h => ?_), zI_add]
        · exact congrArg Value.int (Int32.add_sub_cancel _ _).symm
        · simp only [Bool.and_eq_true, beq_iff_eq] at h ⊢
          exact ⟨by rw [z3.2 i 0 hi (by decide) (by decide)]; exact h.1, z5 i hi h.2⟩
      · rw [k171_21, if_neg hlt, k171_26, m162h hn hA66 (by decide) (by decide), zcb_some, zn_one, k171_32, z6, zcb_some, zn_one, k171_41, if_neg hlt, k171_47, m162h hn hf66 (by decide) (by decide), zcb_some, zn_one, k171_53, m123, zcb_some, zn_nil, k171_67, hvM1, vM_vR, zup_self]
        rfl
end B10
