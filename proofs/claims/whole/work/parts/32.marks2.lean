/-! the class's questions about its marks, one after the other -/
def sQ (V : Nat → Nat → Int32) (i j : Nat) : Bool := !(V 0 i == V 0 j) && (!(V 5 i == 2) && (!(V 5 j == 2) && sC V i j))
/-- how many there are -/
def sN (p : Nat → Bool) (n : Nat) : Int32 := zfo (fun i a => if p i = true then a + 1 else a) 0 n 0
def sG (V : Nat → Nat → Int32) (m : Nat) : Int32 := V 4 m - (V 3 m - V 2 m)
def sGs (V : Nat → Nat → Int32) (n : Nat) (a : Int32) : Int32 := zfo (fun i a => if V 5 i = 1 then a + sG V i else a) 0 n a
def sCnt (V : Nat → Nat → Int32) (n m : Nat) (w : Int32) : Int32 := sN (fun i => !(nI i == nI m) && (V 5 i == w && sC V m i)) n
section C2
variable {X : Nat × (Nat → Int32)} {I : Nat → Nat → Int32}
theorem c14 {i j : Nat} (hi : i < 20) (hj : j < 20) : zr X 14 0 [.ref 5, .int (nI i), .int (nI j)] [] (zk I) = some (some (.int (zb (sQ (vC I 6) i j))), zk I) := by
  have hi1 := zin_nI hi (by decide)
  have hj1 := zin_nI hj (by decide)
  have ei : zx (nI i) = i := zx_nI (by omega)
  have ej : zx (nI j) = j := zx_nI (by omega)
  rw [k14_0 hi1 hj1, ei, ej]
  by_cases a1 : I 6 i = I 6 j
  · rw [if_pos a1, k14_48]
    simp [sQ, vC, a1, zb]
  · rw [if_neg a1, k14_15 hi1, ei]
    by_cases a2 : I 10 i = 2
    · rw [if_pos a2, k14_48]
      simp [sQ, vC, a2, zb]
    · rw [if_neg a2, k14_25 hj1, ej]
      by_cases a3 : I 10 j = 2
      · rw [if_pos a3, k14_48]
        simp [sQ, vC, a3, zb]
      · rw [if_neg a3, k14_35, c12 hi hj, zcb_some, zn_one, k14_41]
        by_cases a4 : sC (vC I 6) i j = true
        · simp only [a4, zb_t, z10, if_false, k14_44]
          have e : sQ (vC I 6) i j = true := by
            unfold sQ
            rw [a4]
            simp [vC, a1, a2, a3]
          rw [e]
          rfl
        · simp only [Bool.not_eq_true] at a4
          simp only [a4, zb_f, z00, if_true, k14_48]
          simp [sQ, a4, zb]
theorem c20 {m : Nat} (hm : m < 20) : zr X 20 0 [.ref 5, .int (nI m)] [] (zk I) = some (some (.int (sG (vC I 6) m)), zk I) := by
  rw [k20_0 (zin_nI hm (by decide)), zx_nI (by omega)]
  rfl
theorem c5 {n : Nat} {m : Int32} (hn : n ≤ 20) (hs : I 5 7 = nI n) : zr X 5 0 [.ref 5, .int m] [] (zk I) = some (some (.int (zb (decide (¬ m < 0) && decide (m < nI n)))), zk I) := by
  rw [k5_0]
  by_cases a1 : m < 0
  · rw [if_pos a1, k5_16]
    simp [a1, zb]
  · rw [if_neg a1, k5_4, hs]
    by_cases a2 : nI n ≤ m
    · rw [if_pos a2, k5_16]
      simp [Int32.not_lt.mpr a2, zb]
    · rw [if_neg a2, k5_12]
      simp [a1, Int32.not_le.mp a2, zb]
theorem c25 {n : Nat} {w : Int32} (hn : n ≤ 20) (hs : I 5 7 = nI n) : zr X 25 0 [.ref 5, .int w, .null, .null] [] (zk I) = some (some (.int (sN (fun i => vC I 6 5 i == w) n)), zk I) := by
  rw [k25_0]
  have h := zloop (F := fun i (a : Int32) => zr X 25 4 [.ref 5, .int w, .int a, .int (nI i)] [] (zk I)) (n := n) (R := fun a => some (some (.int a), zk I)) (f := fun i a => if (vC I 6 5 i == w) = true then a + 1 else a) ?_ ?_ n 0 0 (by omega)
  · have h0 : nI 0 = 0 := nI_0
    rw [h0] at h
    exact h
  · intro i a hi
    have hi1 := zin_nI (show i < 20 by omega) (by decide)
    have ei : zx (nI i) = i := zx_nI (by omega)
    have hi2 : i < 20 := by omega
    rw [k25_4, hs, if_neg (nI_ge hi (by omega))]
    rw [k25_12 hi1, ei]
    by_cases a1 : I 10 i = w
    · rw [if_neg (fun z => z a1), k25_22, ← nI_succ]
      simp [vC, a1]
    · rw [if_pos a1, k25_25, ← nI_succ]
      simp [vC, a1]
  · intro a
    rw [k25_4, hs, if_pos (nI_le (Nat.le_refl _) (by omega)), k25_31]
theorem c26 {n : Nat} {w : Int32} (hn : n ≤ 20) (hs : I 5 7 = nI n) : zr X 26 0 [.ref 5, .int w, .null, .null] [] (zk I) = some (some (.int (sN (fun i => vC I 6 0 i == w) n)), zk I) := by
  rw [k26_0]
  have h := zloop (F := fun i (a : Int32) => zr X 26 4 [.ref 5, .int w, .int a, .int (nI i)] [] (zk I)) (n := n) (R := fun a => some (some (.int a), zk I)) (f := fun i a => if (vC I 6 0 i == w) = true then a + 1 else a) ?_ ?_ n 0 0 (by omega)
  · have h0 : nI 0 = 0 := nI_0
    rw [h0] at h
    exact h
  · intro i a hi
    have hi1 := zin_nI (show i < 20 by omega) (by decide)
    have ei : zx (nI i) = i := zx_nI (by omega)
    have hi2 : i < 20 := by omega
    rw [k26_4, hs, if_neg (nI_ge hi (by omega))]
    rw [k26_12 hi1, ei]
    by_cases a1 : I 6 i = w
    · rw [if_neg (fun z => z a1), k26_22, ← nI_succ]
      simp [vC, a1]
    · rw [if_pos a1, k26_25, ← nI_succ]
      simp [vC, a1]
  · intro a
    rw [k26_4, hs, if_pos (nI_le (Nat.le_refl _) (by omega)), k26_31]
theorem c27 {n : Nat} {e w : Int32} (hn : n ≤ 20) (hs : I 5 7 = nI n) : zr X 27 0 [.ref 5, .int e, .int w, .null, .null] [] (zk I) = some (some (.int (sN (fun i => vC I 6 0 i == e && vC I 6 5 i == w) n)), zk I) := by
  rw [k27_0]
  have h := zloop (F := fun i (a : Int32) => zr X 27 5 [.ref 5, .int e, .int w, .int a, .int (nI i)] [] (zk I)) (n := n) (R := fun a => some (some (.int a), zk I)) (f := fun i a => if (vC I 6 0 i == e && vC I 6 5 i == w) = true then a + 1 else a) ?_ ?_ n 0 0 (by omega)
  · have h0 : nI 0 = 0 := nI_0
    rw [h0] at h
    exact h
  · intro i a hi
    have hi1 := zin_nI (show i < 20 by omega) (by decide)
    have ei : zx (nI i) = i := zx_nI (by omega)
    have hi2 : i < 20 := by omega
    rw [k27_5, hs, if_neg (nI_ge hi (by omega))]
    rw [k27_14 hi1, ei]
    by_cases a1 : I 6 i = e
    · rw [if_neg (fun z => z a1), k27_25 hi1, ei]
      by_cases a2 : I 10 i = w
      · rw [if_neg (fun z => z a2), k27_36, ← nI_succ]
        simp [vC, a1, a2]
      · rw [if_pos a2, k27_39, ← nI_succ]
        simp [vC, a2]
    · rw [if_pos a1, k27_39, ← nI_succ]
      simp [vC, a1]
  · intro a
    rw [k27_5, hs, if_pos (nI_le (Nat.le_refl _) (by omega)), k27_45]
theorem c28 {n : Nat} {e : Int32} (hn : n ≤ 20) (hs : I 5 7 = nI n) : zr X 28 0 [.ref 5, .ref 158, .int e, .null, .null] [] (zk I) = some (some (.int (sN (fun i => vC I 6 0 i == e && (!(I 158 i == 2) && vC I 6 5 i == 2)) n)), zk I) := by
  rw [k28_0]
  have h := zloop (F := fun i (a : Int32) => zr X 28 5 [.ref 5, .ref 158, .int e, .int a, .int (nI i)] [] (zk I)) (n := n) (R := fun a => some (some (.int a), zk I)) (f := fun i a => if (vC I 6 0 i == e && (!(I 158 i == 2) && vC I 6 5 i == 2)) = true then a + 1 else a) ?_ ?_ n 0 0 (by omega)
  · have h0 : nI 0 = 0 := nI_0
    rw [h0] at h
    exact h
  · intro i a hi
    have hi1 := zin_nI (show i < 20 by omega) (by decide)
    have ei : zx (nI i) = i := zx_nI (by omega)
    have hi2 : i < 20 := by omega
    rw [k28_5, hs, if_neg (nI_ge hi (by omega))]
    rw [k28_14, if_neg (show ¬ (20 : Int32) ≤ nI i from nI_ge (b := 20) hi2 (by decide)), k28_21 hi1, ei]
    by_cases a1 : I 6 i = e
    · rw [if_neg (fun z => z a1), k28_32 hi1, ei]
      by_cases a2 : I 158 i = 2
      · rw [if_pos a2, k28_54, ← nI_succ]
        simp [a2]
      · rw [if_neg a2, k28_40 hi1, ei]
        by_cases a3 : I 10 i = 2
        · rw [if_neg (fun z => z a3), k28_51, ← nI_succ]
          simp [vC, a1, a2, a3]
        · rw [if_pos a3, k28_54, ← nI_succ]
          simp [vC, a3]
    · rw [if_pos a1, k28_54, ← nI_succ]
      simp [vC, a1]
  · intro a
    rw [k28_5, hs, if_pos (nI_le (Nat.le_refl _) (by omega)), k28_60]
theorem c18 {n : Nat} {m : Nat} (hn : n ≤ 20) (hs : I 5 7 = nI n) (hm : m < 20) : zr X 18 0 [.ref 5, .int (nI m), .null, .null] [] (zk I) = some (some (.int (sCnt (vC I 6) n m 0)), zk I) := by
  rw [k18_0]
  have h := zloop (F := fun i (a : Int32) => zr X 18 4 [.ref 5, .int (nI m), .int a, .int (nI i)] [] (zk I)) (n := n) (R := fun a => some (some (.int a), zk I)) (f := fun i a => if (!(nI i == nI m) && (vC I 6 5 i == 0 && sC (vC I 6) m i)) = true then a + 1 else a) ?_ ?_ n 0 0 (by omega)
  · have h0 : nI 0 = 0 := nI_0
    rw [h0] at h
    exact h
  · intro i a hi
    have hi1 := zin_nI (show i < 20 by omega) (by decide)
    have ei : zx (nI i) = i := zx_nI (by omega)
    have hi2 : i < 20 := by omega
    rw [k18_4, hs, if_neg (nI_ge hi (by omega))]
    rw [k18_12]
    by_cases a1 : nI i = nI m
    · rw [if_pos a1, k18_38, ← nI_succ]
      simp [a1]
    · rw [if_neg a1, k18_17 hi1, ei]
      by_cases a2 : I 10 i = 0
      · rw [if_neg (fun z => z a2), k18_26, c12 hm hi2, zcb_some, zn_one, k18_32]
        by_cases a3 : sC (vC I 6) m i = true
        · simp only [a3, zb_t, z10, if_false, k18_35, ← nI_succ]
          simp [a1, vC, a2]
        · simp only [Bool.not_eq_true] at a3
          simp only [a3, zb_f, z00, if_true, k18_38, ← nI_succ]
          simp
      · rw [if_pos a2, k18_38, ← nI_succ]
        simp [vC, a2]
  · intro a
    rw [k18_4, hs, if_pos (nI_le (Nat.le_refl _) (by omega)), k18_44]
theorem c22 {n : Nat} {m : Nat} (hn : n ≤ 20) (hs : I 5 7 = nI n) (hm : m < 20) : zr X 22 0 [.ref 5, .int (nI m), .null, .null] [] (zk I) = some (some (.int (sN (fun i => sQ (vC I 6) m i) n)), zk I) := by
  rw [k22_0]
  have h := zloop (F := fun i (a : Int32) => zr X 22 4 [.ref 5, .int (nI m), .int a, .int (nI i)] [] (zk I)) (n := n) (R := fun a => some (some (.int a), zk I)) (f := fun i a => if (sQ (vC I 6) m i) = true then a + 1 else a) ?_ ?_ n 0 0 (by omega)
  · have h0 : nI 0 = 0 := nI_0
    rw [h0] at h
    exact h
  · intro i a hi
    have hi1 := zin_nI (show i < 20 by omega) (by decide)
    have ei : zx (nI i) = i := zx_nI (by omega)
    have hi2 : i < 20 := by omega
    rw [k22_4, hs, if_neg (nI_ge hi (by omega))]
    rw [k22_12, c14 hm hi2, zcb_some, zn_one, k22_18]
    by_cases a3 : sQ (vC I 6) m i = true
    · simp only [a3, zb_t, z10, if_false, k22_21, ← nI_succ]
      simp
    · simp only [Bool.not_eq_true] at a3
      simp only [a3, zb_f, z00, if_true, k22_24, ← nI_succ]
      simp
  · intro a
    rw [k22_4, hs, if_pos (nI_le (Nat.le_refl _) (by omega)), k22_30]
theorem c21 {n : Nat} (hn : n ≤ 20) (hs : I 5 7 = nI n) : zr X 21 0 [.ref 5, .null, .null] [] (zk I) = some (some (.int (sGs (vC I 6) n 0)), zk I) := by
  rw [k21_0]
  have h := zloop (F := fun i (a : Int32) => zr X 21 4 [.ref 5, .int a, .int (nI i)] [] (zk I)) (n := n) (R := fun a => some (some (.int a), zk I)) (f := fun i a => if vC I 6 5 i = 1 then a + sG (vC I 6) i else a) ?_ ?_ n 0 0 (by omega)
  · have h0 : nI 0 = 0 := nI_0
    rw [h0] at h
    exact h
  · intro i a hi
    have hi1 := zin_nI (show i < 20 by omega) (by decide)
    have ei : zx (nI i) = i := zx_nI (by omega)
    rw [k21_4, hs, if_neg (nI_ge hi (by omega)), k21_12 hi1, ei]
    by_cases a1 : I 10 i = 1
    · rw [if_neg (fun z => z a1), k21_22, c20 (by omega), zcb_some, zn_one, k21_28, ← nI_succ]
      simp [vC, a1]
    · rw [if_pos a1, k21_30, ← nI_succ]
      simp [vC, a1]
  · intro a
    rw [k21_4, hs, if_pos (nI_le (Nat.le_refl _) (by omega)), k21_36]
/-- the quarrels of an ink's marks -/
def sQi (V : Nat → Nat → Int32) (n : Nat) (e : Int32) : Int32 := zfo (fun i a => if V 0 i = e then a + sN (fun j => sQ V i j) n else a) 0 n 0
theorem c23 {n : Nat} {e : Int32} (hn : n ≤ 20) (hs : I 5 7 = nI n) : zr X 23 0 [.ref 5, .int e, .null, .null] [] (zk I) = some (some (.int (sQi (vC I 6) n e)), zk I) := by
  rw [k23_0]
  have h := zloop (F := fun i (a : Int32) => zr X 23 4 [.ref 5, .int e, .int a, .int (nI i)] [] (zk I)) (n := n) (R := fun a => some (some (.int a), zk I)) (f := fun i a => if vC I 6 0 i = e then a + sN (fun j => sQ (vC I 6) i j) n else a) ?_ ?_ n 0 0 (by omega)
  · have h0 : nI 0 = 0 := nI_0
    rw [h0] at h
    exact h
  · intro i a hi
    have hi1 := zin_nI (show i < 20 by omega) (by decide)
    have ei : zx (nI i) = i := zx_nI (by omega)
    rw [k23_4, hs, if_neg (nI_ge hi (by omega)), k23_12 hi1, ei]
    by_cases a1 : I 6 i = e
    · rw [if_neg (fun z => z a1), k23_22, c22 hn hs (by omega), zcb_some, zn_one, k23_28, ← nI_succ]
      simp [vC, a1]
    · rw [if_pos a1, k23_30, ← nI_succ]
      simp [vC, a1]
  · intro a
    rw [k23_4, hs, if_pos (nI_le (Nat.le_refl _) (by omega)), k23_36]
/-- all quarrels, as pairs -/
def sQa (V : Nat → Nat → Int32) (n : Nat) : Int32 := zfo (fun i a => zfo (fun j a => if sQ V i j = true then a + 1 else a) (i + 1) (n - (i + 1)) a) 0 n 0
theorem c24in {n i : Nat} (hn : n ≤ 20) (hs : I 5 7 = nI n) (hi : i < n) (a : Int32) : zr X 24 16 [.ref 5, .int a, .int (nI i), .int (nI (i + 1))] [] (zk I) = zr X 24 42 [.ref 5, .int (zfo (fun j a => if sQ (vC I 6) i j = true then a + 1 else a) (i + 1) (n - (i + 1)) a), .int (nI i), .int (nI n)] [] (zk I) := by
  refine zloop (F := fun j (a : Int32) => zr X 24 16 [.ref 5, .int a, .int (nI i), .int (nI j)] [] (zk I)) (n := n) (R := fun a => zr X 24 42 [.ref 5, .int a, .int (nI i), .int (nI n)] [] (zk I)) (f := fun j a => if sQ (vC I 6) i j = true then a + 1 else a) ?_ ?_ (n - (i + 1)) (i + 1) a (by omega)
  · intro j a hj
    rw [k24_16, hs, if_neg (nI_ge hj (by omega)), k24_24, c14 (show i < 20 by omega) (show j < 20 by omega), zcb_some, zn_one, k24_30]
    by_cases a3 : sQ (vC I 6) i j = true
    · simp only [a3, zb_t, z10, if_false, k24_33, ← nI_succ]
      simp
    · simp only [Bool.not_eq_true] at a3
      simp only [a3, zb_f, z00, if_true, k24_36, ← nI_succ]
      simp
  · intro a
    rw [k24_16, hs, if_pos (nI_le (Nat.le_refl _) (by omega))]
theorem c24 {n : Nat} (hn : n ≤ 20) (hs : I 5 7 = nI n) : zr X 24 0 [.ref 5, .null, .null, .null] [] (zk I) = some (some (.int (sQa (vC I 6) n)), zk I) := by
  rw [k24_0]
  have h : ∀ (k i : Nat) (a : Int32) (w : Value), i + k = n → zr X 24 4 [.ref 5, .int a, .int (nI i), w] [] (zk I) = some (some (.int (zfo (fun i a => zfo (fun j a => if sQ (vC I 6) i j = true then a + 1 else a) (i + 1) (n - (i + 1)) a) i k a)), zk I) := by
    intro k
    induction k with
    | zero =>
      intro i a w h
      rw [k24_4, hs, if_pos (nI_le (by omega) (by omega)), k24_48]
      rfl
    | succ k ih =>
      intro i a w h
      rw [k24_4, hs, if_neg (nI_ge (show i < n by omega) (by omega)), k24_12, ← nI_succ, c24in hn hs (by omega), k24_42, ← nI_succ, ih (i + 1) _ _ (by omega)]
      rfl
  exact h n 0 0 .null (by omega)
end C2
