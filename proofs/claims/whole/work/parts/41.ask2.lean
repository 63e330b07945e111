/-! CALLS THAT ASK: marks, editors, counts -/
/-- a call of the class and the same one of the reference: one answer, and all holds behind it -/
def Call (X : Nat × (Nat → Int32)) (c : Nat) (I : Nat → Nat → Int32) (k : Nat) (a : List Value) (k' : Nat) (a' : List Value) : Prop := ∃ (r : Int32) (I1 J : Nat → Nat → Int32), zr X k 0 a [] (zk I) = some (some (.int r), zk I1) ∧ zr X k' 0 a' [] (zk I1) = some (some (.int r), zk J) ∧ Inv (c + 1) J
theorem inv_b {c : Nat} {I : Nat → Nat → Int32} (h : Inv c I) : ∃ t n, wK (I 161) t n ∧ I 3 1 = nI t ∧ I 5 7 = nI n ∧ vEq (vC I 6) (vR (I 161)) n := by
  obtain ⟨⟨⟨⟨a1, -⟩, ⟨b1, b2, -⟩, -⟩, ⟨t, n, hk⟩, -⟩, -⟩ := h
  have hn := wK_n hk
  refine ⟨t, n, hk, a1.trans hk.2.2.1, b1.trans hk.2.2.2.1, fun i w hi hw => ?_⟩
  exact b2 i w (by rw [hn]; exact hi) hw
theorem mk_cases {n : Nat} (hn : n ≤ 100) (v : Int32) : (v < 0 ∨ nI n ≤ v) ∨ ∃ m, m < n ∧ v = nI m := by
  by_cases h : v < 0
  · exact Or.inl (Or.inl h)
  · have e := nI_zx h
    by_cases h2 : zx v < n
    · exact Or.inr ⟨zx v, h2, e.symm⟩
    · refine Or.inl (Or.inr ?_)
      rw [← e]
      exact nI_le (by omega) (zx_lt v)
theorem sw_cases (k : Nat) (hk : k < 1000) (v : Int32) : (v.toInt < 0 ∨ (k : Int) < v.toInt) ∨ ∃ j, j ≤ k ∧ v = nI j := by
  by_cases h : v < 0
  · have h2 := Int32.lt_iff_toInt_lt.mp h
    exact Or.inl (Or.inl h2)
  · have e := nI_zx h
    by_cases h2 : zx v ≤ k
    · exact Or.inr ⟨zx v, h2, e.symm⟩
    · refine Or.inl (Or.inr ?_)
      rw [← e, nI_toInt (zx_lt v)]
      omega
theorem zb_in {v : Int32} {a b : Nat} (hb : b < 2 ^ 31) (ha : a < 2 ^ 31) (j : Nat) (hj : j < 2 ^ 31) (h : v = nI j) : zb (decide (¬ v < nI a) && decide (¬ nI b < v)) = zb (decide (a ≤ j ∧ j ≤ b)) := by
  subst h
  congr 1
  rw [Bool.eq_iff_iff]
  simp only [Bool.and_eq_true, decide_eq_true_eq]
  rw [nI_lt_iff hj ha, nI_lt_iff hb hj]
  omega
section A1
variable {X : Nat × (Nat → Int32)} {I : Nat → Nat → Int32}
theorem vM_th {v : Int32} : vM (zs1 I 160 0 v) = vM I := by
  funext w i
  unfold vM
  rw [zs1_ne (by decide)]
theorem th_161 {v : Int32} : zs1 I 160 0 v 161 = I 161 := zs1_ne (by decide)
theorem c5n {n : Nat} {v : Int32} (hn : n ≤ 20) (hs : I 5 7 = nI n) (h : v < 0 ∨ nI n ≤ v) : zr X 5 0 [.ref 5, .int v] [] (zk I) = some (some (.int 0), zk I) := by
  rw [c5 hn hs]
  rcases h with h | h
  · simp [h, zb]
  · simp [Int32.not_lt.mpr h, zb]
theorem c5y {n m : Nat} (hn : n ≤ 20) (hs : I 5 7 = nI n) (h : m < n) : zr X 5 0 [.ref 5, .int (nI m)] [] (zk I) = some (some (.int 1), zk I) := by
  rw [c5 hn hs]
  simp [nI_pos (show m < 2 ^ 31 by omega), nI_lt h (by omega), zb]
theorem m119n {n : Nat} {v : Int32} (hn : n ≤ 20) (hs : I 161 66 = nI n) (h : v < 0 ∨ nI n ≤ v) : zr X 119 0 [.ref 160, .int v] [] (zk I) = some (some (.int 0), zk I) := by
  rw [m119, hs]
  rcases h with h | h
  · simp [h, zb]
  · have h2 : nI n - 1 < v := by
      have e : nI n - 1 < nI n := by
        have hx : ∀ n : Nat, n ≤ 20 → nI n - 1 < nI n := by decide
        exact hx n hn
      exact Int32.lt_of_lt_of_le e h
    simp [h2, zb]
theorem m119y {n m : Nat} (hn : n ≤ 20) (hs : I 161 66 = nI n) (h : m < n) : zr X 119 0 [.ref 160, .int (nI m)] [] (zk I) = some (some (.int 1), zk I) := by
  have e : nI n - 1 = nI (n - 1) := by
    obtain ⟨k, rfl⟩ := Nat.exists_eq_add_of_lt h
    rw [show m + k + 1 - 1 = m + k by omega, nI_succ]
    exact Int32.add_sub_cancel _ _
  rw [m119, hs, e]
  simp [nI_pos (show m < 2 ^ 31 by omega), nI_nlt (show m ≤ n - 1 by omega) (by omega), zb]
theorem c113n {v : Int32} (h : v < 0 ∨ nI 5 ≤ v) : zr X 113 0 [.int v] [] (zk I) = some (some (.int 0), zk I) := by
  rw [k113_0]
  rcases h with h | h
  · rw [if_pos h, k113_13]
  · by_cases h2 : v < 0
    · rw [if_pos h2, k113_13]
    · rw [if_neg h2, k113_4, if_pos (show (5 : Int32) ≤ v from h), k113_13]
theorem c113y {m : Nat} (h : m < 5) : zr X 113 0 [.int (nI m)] [] (zk I) = some (some (.int 1), zk I) := by
  rw [k113_0, if_neg (nI_pos (by omega)), k113_4, if_neg (show ¬ (5 : Int32) ≤ nI m from nI_ge (b := 5) h (by decide)), k113_9]
theorem m120n {v : Int32} (h : v < 0 ∨ nI 5 ≤ v) : zr X 120 0 [.int v] [] (zk I) = some (some (.int 0), zk I) := by
  rw [m120]
  rcases h with h | h
  · simp [h, zb]
  · have h2 : (4 : Int32) < v := Int32.lt_of_lt_of_le (show (4 : Int32) < nI 5 by decide) h
    simp [h2, zb]
theorem m120y {m : Nat} (h : m < 5) : zr X 120 0 [.int (nI m)] [] (zk I) = some (some (.int 1), zk I) := by
  rw [m120]
  have h2 : ¬ (4 : Int32) < nI m := nI_nlt (a := 4) (by omega) (by decide)
  simp [nI_pos (show m < 2 ^ 31 by omega), h2, zb]
theorem m116y {j b : Nat} (h : j ≤ b) (hb : b < 2 ^ 31) : zr X 116 0 [.int (nI j), .int 0, .int (nI b)] [] (zk I) = some (some (.int 1), zk I) := by
  rw [m116]
  simp [nI_pos (show j < 2 ^ 31 by omega), nI_nlt h hb, zb]
theorem m116n {v : Int32} {b : Nat} (hb : b < 2 ^ 31) (h : v < 0 ∨ nI b < v) : zr X 116 0 [.int v, .int 0, .int (nI b)] [] (zk I) = some (some (.int 0), zk I) := by
  rw [m116]
  rcases h with h | h <;> simp [h, zb]
theorem sw_out {k : Nat} (hk : k < 1000) {v : Int32} (h : v.toInt < 0 ∨ (k : Int) < v.toInt) : v < 0 ∨ nI k < v := by
  rcases h with h | h
  · exact Or.inl (Int32.lt_iff_toInt_lt.mpr h)
  · refine Or.inr (Int32.lt_iff_toInt_lt.mpr ?_)
    rw [nI_toInt (by omega)]
    exact h
/-- of -/
theorem p_of {c : Nat} (hI : Inv c I) (v w : Int32) : Call X c I 99 [.ref 1, .int v, .int w, .null] 160 [.ref 160, .int v, .int w] := by
  obtain ⟨t, n, hk, ht, hs, hv⟩ := inv_b hI
  have hn : n ≤ 20 := hk.2.1
  have hS : I 161 66 = nI n := hk.2.2.2.1
  have hS0 : zs1 I 160 0 0 161 66 = nI n := by rw [th_161]; exact hS
  rcases mk_cases (n := n) (by omega) v with hb | ⟨m, hm, rfl⟩
  · refine ⟨-1, I, zs1 I 160 0 0, ?_, ?_, inv_q hI cQ_rf mQ_th⟩
    · rw [k99_0, c5n hn hs hb, zcb_some, zn_one, k99_13, if_neg (by decide), k99_16]
    · rw [k160_0, m119n hn hS0 hb, zcb_some, zn_one, k160_10, if_neg (by decide), k160_13]
  · have hm2 : m < 20 := by omega
    have hz := zin_nI hm2 (by decide)
    have ez : zx (nI m) = m := zx_nI (by omega)
    have hc : ∀ r, zr X 99 18 [.ref 1, .int (nI m), .int w, .ref 5] [] (zk I) = some (some (.int r), zk I) → zr X 99 0 [.ref 1, .int (nI m), .int w, .null] [] (zk I) = some (some (.int r), zk I) := by
      intro r h
      rw [k99_0, c5y hn hs hm, zcb_some, zn_one, k99_13, if_pos (by decide), h]
    have hM : ∀ r, zr X 160 15 [.ref 160, .int (nI m), .int w] [] (zk (zs1 I 160 0 0)) = some (some (.int r), zk (zs1 I 160 0 0)) → zr X 160 0 [.ref 160, .int (nI m), .int w] [] (zk I) = some (some (.int r), zk (zs1 I 160 0 0)) := by
      intro r h
      rw [k160_0, m119y hn hS0 hm, zcb_some, zn_one, k160_10, if_pos (by decide), h]
    have h6 : ∀ j, j ≤ 5 → w = nI j → zr X 160 15 [.ref 160, .int (nI m), .int w] [] (zk (zs1 I 160 0 0)) = some (some (.int (vR (I 161) j m)), zk (zs1 I 160 0 0)) := by
      intro j hj hw
      rw [k160_15_d (by rw [hw]; exact fun z => by have := (nI_inj (b := 6) (by omega) (by decide)).mp z; omega) (by rw [hw]; exact fun z => by have := (nI_inj (b := 7) (by omega) (by decide)).mp z; omega), k160_59, hw, show (5 : Int32) = nI 5 from rfl, m116y hj (by decide), zcb_some, zn_one, k160_65, if_neg (by decide), k160_68, m117 (by omega) (by omega), zcb_some, zn_one, k160_74, vM_th]
      rfl
    rcases sw_cases 7 (by decide) w with hb | ⟨j, hj, hw⟩
    · refine ⟨-2, I, zs1 I 160 0 0, hc _ ?_, hM _ ?_, inv_q hI cQ_rf mQ_th⟩
      · rw [k99_18_d hb, k99_121]
      · have h1 : ¬ w = 6 := fun z => by rw [z] at hb; exact absurd hb (by decide)
        have h2 : ¬ w = 7 := fun z => by rw [z] at hb; exact absurd hb (by decide)
        have h3 := sw_out (by decide) hb
        rw [k160_15_d h1 h2, k160_59, show (5 : Int32) = nI 5 from rfl, m116n (by decide) (h3.imp id (fun z => Int32.lt_trans (show nI 5 < nI 7 by decide) z)), zcb_some, zn_one, k160_65, if_pos (by decide), k160_77]
    · have hj8 : j = 0 ∨ j = 1 ∨ j = 2 ∨ j = 3 ∨ j = 4 ∨ j = 5 ∨ j = 6 ∨ j = 7 := by omega
      rcases hj8 with rfl | rfl | rfl | rfl | rfl | rfl | rfl | rfl
      · refine ⟨vR (I 161) 0 m, I, zs1 I 160 0 0, hc _ ?_, hM _ (h6 0 (by decide) hw), inv_q hI cQ_rf mQ_th⟩
        rw [k99_18_c0 hw, k99_64 hz, ez, show I 6 m = vR (I 161) 0 m from hv m 0 hm (by decide)]
      · refine ⟨vR (I 161) 1 m, I, zs1 I 160 0 0, hc _ ?_, hM _ (h6 1 (by decide) hw), inv_q hI cQ_rf mQ_th⟩
        rw [k99_18_c1 hw, k99_71 hz, ez, show I 7 m = vR (I 161) 1 m from hv m 1 hm (by decide)]
      · refine ⟨vR (I 161) 2 m, I, zs1 I 160 0 0, hc _ ?_, hM _ (h6 2 (by decide) hw), inv_q hI cQ_rf mQ_th⟩
        rw [k99_18_c2 hw, k99_78 hz, ez, show I 8 m = vR (I 161) 2 m from hv m 2 hm (by decide)]
      · refine ⟨vR (I 161) 3 m, I, zs1 I 160 0 0, hc _ ?_, hM _ (h6 3 (by decide) hw), inv_q hI cQ_rf mQ_th⟩
        rw [k99_18_c3 hw, k99_85 hz, ez, show I 9 m = vR (I 161) 3 m from hv m 3 hm (by decide)]
      · refine ⟨vR (I 161) 4 m, I, zs1 I 160 0 0, hc _ ?_, hM _ (h6 4 (by decide) hw), inv_q hI cQ_rf mQ_th⟩
        rw [k99_18_c4 hw, k99_92 hz, ez, show I 11 m = vR (I 161) 4 m from hv m 4 hm (by decide)]
      · refine ⟨vR (I 161) 5 m, I, zs1 I 160 0 0, hc _ ?_, hM _ (h6 5 (by decide) hw), inv_q hI cQ_rf mQ_th⟩
        rw [k99_18_c5 hw, k99_99 hz, ez, show I 10 m = vR (I 161) 5 m from hv m 5 hm (by decide)]
      · refine ⟨sN (fun i => sQ (vM I) m i) n, I, zs1 I 160 0 0, hc _ ?_, hM _ ?_, inv_q hI cQ_rf mQ_th⟩
        · rw [k99_18_c6 hw, k99_106, c22 hn hs hm2, zcb_some, zn_one, k99_111, sN_at (fun i hi => vEq_sQ hv hm hi)]
          rfl
        · rw [k160_15_c6 hw, k160_44, m159 hn hS0 (by omega), zcb_some, zn_one, k160_49, vM_th]
      · refine ⟨sG (vM I) m + 100, I, zs1 I 160 0 0, hc _ ?_, hM _ ?_, inv_q hI cQ_rf mQ_th⟩
        · rw [k99_18_c7 hw, k99_112, c20 hm2, zcb_some, zn_one, k99_117, vEq_sG hv hm]
          rfl
        · rw [k160_15_c7 hw, k160_50, m127 (by omega), zcb_some, zn_one, k160_55, vM_th]
/-- clash -/
theorem p_clash {c : Nat} (hI : Inv c I) (v w : Int32) : Call X c I 100 [.ref 1, .int v, .int w] 161 [.ref 160, .int v, .int w] := by
  obtain ⟨t, n, hk, ht, hs, hv⟩ := inv_b hI
  have hn : n ≤ 20 := hk.2.1
  have hS : I 161 66 = nI n := hk.2.2.2.1
  have hS0 : zs1 I 160 0 0 161 66 = nI n := by rw [th_161]; exact hS
  rcases mk_cases (n := n) (by omega) v with hb | ⟨m, hm, rfl⟩
  · refine ⟨-1, I, zs1 I 160 0 0, ?_, ?_, inv_q hI cQ_rf mQ_th⟩
    · rw [k100_0, c5n hn hs hb, zcb_some, zn_one, k100_11, if_pos rfl, k100_28]
    · rw [k161_0, m119n hn hS0 hb, zcb_some, zn_one, k161_10, if_pos rfl, k161_21]
  · rcases mk_cases (n := n) (by omega) w with hb | ⟨k, hk2, rfl⟩
    · refine ⟨-1, I, zs1 I 160 0 0, ?_, ?_, inv_q hI cQ_rf mQ_th⟩
      · rw [k100_0, c5y hn hs hm, zcb_some, zn_one, k100_11, if_neg (by decide), k100_14, c5n hn hs hb, zcb_some, zn_one, k100_25, if_neg (by decide), k100_28]
      · rw [k161_0, m119y hn hS0 hm, zcb_some, zn_one, k161_10, if_neg (by decide), k161_13, m119n hn hS0 hb, zcb_some, zn_one, k161_18, if_neg (by decide), k161_21]
    · have hc : ∀ r, zr X 100 30 [.ref 1, .int (nI m), .int (nI k)] [] (zk I) = some (some (.int r), zk I) → zr X 100 0 [.ref 1, .int (nI m), .int (nI k)] [] (zk I) = some (some (.int r), zk I) := by
        intro r h
        rw [k100_0, c5y hn hs hm, zcb_some, zn_one, k100_11, if_neg (by decide), k100_14, c5y hn hs hk2, zcb_some, zn_one, k100_25, if_pos (by decide), h]
      have hM : ∀ r, zr X 161 23 [.ref 160, .int (nI m), .int (nI k)] [] (zk (zs1 I 160 0 0)) = some (some (.int r), zk (zs1 I 160 0 0)) → zr X 161 0 [.ref 160, .int (nI m), .int (nI k)] [] (zk I) = some (some (.int r), zk (zs1 I 160 0 0)) := by
        intro r h
        rw [k161_0, m119y hn hS0 hm, zcb_some, zn_one, k161_10, if_neg (by decide), k161_13, m119y hn hS0 hk2, zcb_some, zn_one, k161_18, if_pos (by decide), h]
      by_cases he : nI m = nI k
      · exact ⟨-2, I, zs1 I 160 0 0, hc _ (by rw [k100_30, if_neg (fun z => z he), k100_35]), hM _ (by rw [k161_23, if_neg (fun z => z he), k161_28]), inv_q hI cQ_rf mQ_th⟩
      · have e1 := vEq_sC hv hm hk2
        have e2 := vEq_sQ hv hm hk2
        have hC : zr X 100 38 [.ref 1, .int (nI m), .int (nI k)] [] (zk I) = some (some (.int (if sC (vR (I 161)) m k = true then (if sQ (vR (I 161)) m k = true then 2 else 1) else 0)), zk I) := by
          rw [k100_38, c12 (by omega) (by omega), zcb_some, zn_one, k100_50, e1]
          by_cases a : sC (vR (I 161)) m k = true
          · rw [if_pos a, a, if_pos (by decide), k100_55, c14 (by omega) (by omega), zcb_some, zn_one, k100_67, e2]
            by_cases b : sQ (vR (I 161)) m k = true
            · rw [if_pos b, b, if_neg (by decide), k100_70]
            · rw [if_neg b, show sQ (vR (I 161)) m k = false by simpa using b, if_pos (by decide), k100_74]
          · rw [if_neg a]
            rw [Bool.not_eq_true] at a
            rw [a, if_neg (by decide), k100_53]
        have hD : zr X 161 31 [.ref 160, .int (nI m), .int (nI k)] [] (zk (zs1 I 160 0 0)) = some (some (.int (if sC (vR (I 161)) m k = true then (if sQ (vR (I 161)) m k = true then 2 else 1) else 0)), zk (zs1 I 160 0 0)) := by
          rw [k161_31, m125 (by omega) (by omega), zcb_some, zn_one, k161_37, vM_th, vM_vR]
          by_cases b : sQ (vR (I 161)) m k = true
          · have a : sC (vR (I 161)) m k = true := by
              unfold sQ at b
              simp only [Bool.and_eq_true] at b
              exact b.2.2.2
            rw [if_pos a, if_pos b, b, if_neg (by decide), k161_40]
          · rw [if_neg b]
            rw [Bool.not_eq_true] at b
            rw [b, if_pos (by decide), k161_44, m124 (by omega) (by omega), zcb_some, zn_one, k161_50, vM_th, vM_vR]
            by_cases a : sC (vR (I 161)) m k = true
            · rw [if_pos a, a, if_neg (by decide), k161_53]
            · rw [if_neg a]
              rw [Bool.not_eq_true] at a
              rw [a, if_pos (by decide), k161_57]
        exact ⟨_, I, zs1 I 160 0 0, hc _ (by rw [k100_30, if_pos he, hC]), hM _ (by rw [k161_23, if_pos he, hD]), inv_q hI cQ_rf mQ_th⟩
end A1
