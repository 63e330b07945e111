/-! the reference's questions about its marks -/
theorem zI_add (a b : Nat) : nI (a + b) = nI a + nI b := Int32.ofNat_add a b
theorem zI_mul (a b : Nat) : nI (a * b) = nI a * nI b := Int32.ofNat_mul a b
/-- the reference's table of marks -/
def vM (I : Nat → Nat → Int32) (w i : Nat) : Int32 := I 161 (67 + 12 * i + w)
theorem nI_row (i w : Nat) : (67 : Int32) + 12 * nI i + nI w = nI (67 + 12 * i + w) := by
  rw [zI_add, zI_add, zI_mul]
  rfl
section M1
variable {X : Nat × (Nat → Int32)} {I : Nat → Nat → Int32}
theorem m117 {i w : Nat} (hi : i ≤ 20) (hw : w < 12) : zr X 117 0 [.ref 160, .int (nI i), .int (nI w)] [] (zk I) = some (some (.int (vM I w i)), zk I) := by
  have e := nI_row i w
  rw [k117_0 (by rw [e]; exact zin_nI (by omega) (by decide)), e, zx_nI (by omega)]
  rfl
theorem m117_0 {i : Nat} (hi : i ≤ 20) : zr X 117 0 [.ref 160, .int (nI i), .int 0] [] (zk I) = some (some (.int (vM I 0 i)), zk I) := m117 (w := 0) hi (by decide)
theorem m117_1 {i : Nat} (hi : i ≤ 20) : zr X 117 0 [.ref 160, .int (nI i), .int 1] [] (zk I) = some (some (.int (vM I 1 i)), zk I) := m117 (w := 1) hi (by decide)
theorem m117_2 {i : Nat} (hi : i ≤ 20) : zr X 117 0 [.ref 160, .int (nI i), .int 2] [] (zk I) = some (some (.int (vM I 2 i)), zk I) := m117 (w := 2) hi (by decide)
theorem m117_3 {i : Nat} (hi : i ≤ 20) : zr X 117 0 [.ref 160, .int (nI i), .int 3] [] (zk I) = some (some (.int (vM I 3 i)), zk I) := m117 (w := 3) hi (by decide)
theorem m117_4 {i : Nat} (hi : i ≤ 20) : zr X 117 0 [.ref 160, .int (nI i), .int 4] [] (zk I) = some (some (.int (vM I 4 i)), zk I) := m117 (w := 4) hi (by decide)
theorem m117_5 {i : Nat} (hi : i ≤ 20) : zr X 117 0 [.ref 160, .int (nI i), .int 5] [] (zk I) = some (some (.int (vM I 5 i)), zk I) := m117 (w := 5) hi (by decide)
theorem m116 {v a b : Int32} : zr X 116 0 [.int v, .int a, .int b] [] (zk I) = some (some (.int (zb (decide (¬ v < a) && decide (¬ b < v)))), zk I) := by
  rw [k116_0]
  by_cases h1 : v < a
  · rw [if_pos h1, k116_14]
    simp [h1, zb]
  · rw [if_neg h1, k116_5]
    by_cases h2 : b < v
    · rw [if_pos h2, k116_14]
      simp [h2, zb]
    · rw [if_neg h2, k116_10]
      simp [h1, h2, zb]
theorem m119 {v : Int32} : zr X 119 0 [.ref 160, .int v] [] (zk I) = some (some (.int (zb (decide (¬ v < 0) && decide (¬ I 161 66 - 1 < v)))), zk I) := by
  rw [k119_0, m116, zcb_some, zn_one, k119_14 (zb_01 _)]
theorem m120 {v : Int32} : zr X 120 0 [.int v] [] (zk I) = some (some (.int (zb (decide (¬ v < 0) && decide (¬ 4 < v)))), zk I) := by
  rw [k120_0, m116, zcb_some, zn_one, k120_6 (zb_01 _)]
theorem z11 : ((1 : Int32) = 1) = True := by decide
theorem m124 {i j : Nat} (hi : i ≤ 20) (hj : j ≤ 20) : zr X 124 0 [.ref 160, .int (nI i), .int (nI j), .null, .null, .null, .null] [] (zk I) = some (some (.int (zb (sC (vM I) i j))), zk I) := by
  simp only [k124_0, m117_1 hi, m117_1 hj, m117_2 hi, m117_2 hj, m117_3 hi, m117_3 hj, zcb_some, zn_one, k124_6, k124_10, k124_14, k124_22, k124_26, k124_30, k124_37, k124_42, k124_48, k124_54, k124_57, k124_61, k124_63, k124_67, k124_72, k124_77, k124_81, k124_86, k124_92, k124_96, k124_108, k124_111, k124_120, k124_123, k124_127, k124_129, k124_135, k124_141, k124_144, k124_150, k124_156, k124_159, k124_163, z10, z00, if_true, if_false, not_true, not_false_eq_true]
  unfold sC sCl
  by_cases a1 : vM I 1 i = 1
  · by_cases a2 : vM I 1 j = 1
    · by_cases a3 : vM I 2 i = vM I 2 j <;> simp [a1, a2, a3, zb]
    · by_cases a3 : vM I 2 i ≤ vM I 2 j
      · simp [a1, a2, a3, zb, Int32.not_lt.mpr a3]
      · by_cases a4 : vM I 3 j ≤ vM I 2 i
        · simp [a1, a2, a3, a4, zb, Int32.not_lt.mpr a4]
        · simp [a1, a2, a3, a4, zb, Int32.not_le.mp a3, Int32.not_le.mp a4]
  · by_cases a2 : vM I 1 j = 1
    · by_cases a3 : vM I 2 j ≤ vM I 2 i
      · simp [a1, a2, a3, zb, Int32.not_lt.mpr a3]
      · by_cases a4 : vM I 3 i ≤ vM I 2 j
        · simp [a1, a2, a3, a4, zb, Int32.not_lt.mpr a4]
        · simp [a1, a2, a3, a4, zb, Int32.not_le.mp a3, Int32.not_le.mp a4]
    · by_cases a3 : vM I 3 j ≤ vM I 2 i
      · simp [a1, a2, a3, zb, Int32.not_lt.mpr a3]
      · by_cases a4 : vM I 3 i ≤ vM I 2 j
        · simp [a1, a2, a3, a4, zb, Int32.not_lt.mpr a4]
        · simp [a1, a2, a3, a4, zb, Int32.not_le.mp a3, Int32.not_le.mp a4]
theorem m125 {i j : Nat} (hi : i ≤ 20) (hj : j ≤ 20) : zr X 125 0 [.ref 160, .int (nI i), .int (nI j)] [] (zk I) = some (some (.int (zb (sQ (vM I) i j))), zk I) := by
  rw [k125_0]
  by_cases a0 : nI i = nI j
  · rw [if_pos a0, k125_53]
    have e : i = j := (nI_inj (by omega) (by omega)).mp a0
    simp [sQ, e, zb]
  · rw [if_neg a0, k125_5, m117_5 hi, zcb_some, zn_one, k125_11]
    by_cases a2 : vM I 5 i = 2
    · rw [if_pos a2, k125_53]
      simp [sQ, a2, zb]
    · rw [if_neg a2, k125_15, m117_5 hj, zcb_some, zn_one, k125_21]
      by_cases a3 : vM I 5 j = 2
      · rw [if_pos a3, k125_53]
        simp [sQ, a3, zb]
      · rw [if_neg a3, k125_25, m117_0 hi, zcb_some, zn_one, k125_31, m117_0 hj, zcb_some, zn_one, k125_37]
        by_cases a1 : vM I 0 i = vM I 0 j
        · rw [if_pos a1, k125_53]
          simp [sQ, a1, zb]
        · rw [if_neg a1, k125_40, m124 hi hj, zcb_some, zn_one, k125_46]
          by_cases a4 : sC (vM I) i j = true
          · simp only [a4, zb_t, z10, if_false, k125_49]
            have e : sQ (vM I) i j = true := by
              unfold sQ
              rw [a4]
              simp [a1, a2, a3]
            rw [e]
            rfl
          · simp only [Bool.not_eq_true] at a4
            simp only [a4, zb_f, z00, if_true, k125_53]
            simp [sQ, a4, zb]
theorem m127 {i : Nat} (hi : i ≤ 20) : zr X 127 0 [.ref 160, .int (nI i)] [] (zk I) = some (some (.int (sG (vM I) i)), zk I) := by
  simp only [k127_0, m117_4 hi, m117_3 hi, m117_2 hi, zcb_some, zn_one, k127_6, k127_12, k127_18]
  rfl
theorem z_add0 (a : Int32) : a + 0 = a := Int32.add_zero a
theorem m126 {n m : Nat} {w : Int32} (hn : n ≤ 20) (hs : I 161 66 = nI n) (hm : m ≤ 20) : zr X 126 0 [.ref 160, .int (nI m), .int w, .null, .null] [] (zk I) = some (some (.int (sCnt (vM I) n m w)), zk I) := by
  rw [k126_0]
  have h := zloop (F := fun i (a : Int32) => zr X 126 5 [.ref 160, .int (nI m), .int w, .int a, .int (nI i)] [] (zk I)) (n := n) (R := fun a => some (some (.int a), zk I)) (f := fun i a => if (!(nI i == nI m) && (vM I 5 i == w && sC (vM I) m i)) = true then a + 1 else a) ?_ ?_ n 0 0 (by omega)
  · have h0 : nI 0 = 0 := nI_0
    rw [h0] at h
    exact h
  · intro i a hi
    have hi2 : i ≤ 20 := by omega
    rw [k126_5, hs, if_neg (nI_ge hi (by omega)), k126_17]
    by_cases a1 : nI i = nI m
    · rw [if_pos a1, k126_49, ← nI_succ, z_add0]
      simp [a1]
    · rw [if_neg a1, k126_24, m117_5 hi2, zcb_some, zn_one, k126_31]
      by_cases a2 : vM I 5 i = w
      · rw [if_neg (fun z => z a2), k126_35, m124 hm hi2, zcb_some, zn_one, k126_42]
        by_cases a3 : sC (vM I) m i = true
        · simp only [a3, zb_t, z10, if_false, k126_45, ← nI_succ]
          simp [a1, a2]
        · simp only [Bool.not_eq_true] at a3
          simp only [a3, zb_f, z00, if_true, k126_49, ← nI_succ, z_add0]
          simp
      · rw [if_pos a2, k126_49, ← nI_succ, z_add0]
        simp [a2]
  · intro a
    rw [k126_5, hs, if_pos (nI_le (Nat.le_refl _) (by omega)), k126_58]
theorem m128 {n : Nat} (hn : n ≤ 20) (hs : I 161 66 = nI n) : zr X 128 0 [.ref 160, .null, .null] [] (zk I) = some (some (.int (sGs (vM I) n (I 161 0))), zk I) := by
  rw [k128_0]
  have h := zloop (F := fun i (a : Int32) => zr X 128 9 [.ref 160, .int a, .int (nI i)] [] (zk I)) (n := n) (R := fun a => some (some (.int a), zk I)) (f := fun i a => if vM I 5 i = 1 then a + sG (vM I) i else a) ?_ ?_ n 0 (I 161 0) (by omega)
  · have h0 : nI 0 = 0 := nI_0
    rw [h0] at h
    exact h
  · intro i a hi
    have hi2 : i ≤ 20 := by omega
    rw [k128_9, hs, if_neg (nI_ge hi (by omega)), k128_20, m117_5 hi2, zcb_some, zn_one, k128_27]
    by_cases a1 : vM I 5 i = 1
    · rw [if_neg (fun z => z a1), k128_31, m127 hi2, zcb_some, zn_one, k128_36, ← nI_succ]
      simp [a1]
    · rw [if_pos a1, k128_39, ← nI_succ, z_add0]
      simp [a1]
  · intro a
    rw [k128_9, hs, if_pos (nI_le (Nat.le_refl _) (by omega)), k128_48]
theorem m147 {n : Nat} {w : Int32} (hn : n ≤ 20) (hs : I 161 66 = nI n) : zr X 147 0 [.ref 160, .int w, .null, .null] [] (zk I) = some (some (.int (sN (fun i => vM I 5 i == w) n)), zk I) := by
  rw [k147_0]
  have h := zloop (F := fun i (a : Int32) => zr X 147 4 [.ref 160, .int w, .int a, .int (nI i)] [] (zk I)) (n := n) (R := fun a => some (some (.int a), zk I)) (f := fun i a => if (vM I 5 i == w) = true then a + 1 else a) ?_ ?_ n 0 0 (by omega)
  · have h0 : nI 0 = 0 := nI_0
    rw [h0] at h
    exact h
  · intro i a hi
    have hi2 : i ≤ 20 := by omega
    rw [k147_4, hs, if_neg (nI_ge hi (by omega)), k147_15, m117_5 hi2, zcb_some, zn_one, k147_22]
    by_cases a1 : vM I 5 i = w
    · rw [if_neg (fun z => z a1), k147_26, ← nI_succ]
      simp [a1]
    · rw [if_pos a1, k147_30, ← nI_succ, z_add0]
      simp [a1]
  · intro a
    rw [k147_4, hs, if_pos (nI_le (Nat.le_refl _) (by omega)), k147_39]
theorem m159 {n m : Nat} (hn : n ≤ 20) (hs : I 161 66 = nI n) (hm : m ≤ 20) : zr X 159 0 [.ref 160, .int (nI m), .null, .null] [] (zk I) = some (some (.int (sN (fun i => sQ (vM I) m i) n)), zk I) := by
  rw [k159_0]
  have h := zloop (F := fun i (a : Int32) => zr X 159 4 [.ref 160, .int (nI m), .int a, .int (nI i)] [] (zk I)) (n := n) (R := fun a => some (some (.int a), zk I)) (f := fun i a => if sQ (vM I) m i = true then a + 1 else a) ?_ ?_ n 0 0 (by omega)
  · have h0 : nI 0 = 0 := nI_0
    rw [h0] at h
    exact h
  · intro i a hi
    have hi2 : i ≤ 20 := by omega
    rw [k159_4, hs, if_neg (nI_ge hi (by omega)), k159_15, m125 hm hi2, zcb_some, zn_one, k159_22]
    by_cases a3 : sQ (vM I) m i = true
    · simp only [a3, zb_t, z10, if_false, k159_25, ← nI_succ]
      simp
    · simp only [Bool.not_eq_true] at a3
      simp only [a3, zb_f, z00, if_true, k159_29, ← nI_succ, z_add0]
      simp
  · intro a
    rw [k159_4, hs, if_pos (nI_le (Nat.le_refl _) (by omega)), k159_38]
theorem m164 {n : Nat} (hn : n ≤ 20) (hs : I 161 66 = nI n) : zr X 164 0 [.ref 160, .null, .null] [] (zk I) = some (some (.int (zfo (fun i a => a + sN (fun j => sQ (vM I) i j) n) 0 n 0 / 2)), zk I) := by
  rw [k164_0]
  have h := zloop (F := fun i (a : Int32) => zr X 164 4 [.ref 160, .int a, .int (nI i)] [] (zk I)) (n := n) (R := fun a => some (some (.int (a / 2)), zk I)) (f := fun i a => a + sN (fun j => sQ (vM I) i j) n) ?_ ?_ n 0 0 (by omega)
  · have h0 : nI 0 = 0 := nI_0
    rw [h0] at h
    exact h
  · intro i a hi
    rw [k164_4, hs, if_neg (nI_ge hi (by omega)), k164_15, m159 hn hs (by omega), zcb_some, zn_one, k164_21, ← nI_succ]
  · intro a
    rw [k164_4, hs, if_pos (nI_le (Nat.le_refl _) (by omega)), k164_29]
end M1
