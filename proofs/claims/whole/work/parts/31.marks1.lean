/-! what two marks are to each other; the class's questions about marks -/
def sCl (k a b k' a' b' : Int32) : Bool :=
  if k = 1 then (if k' = 1 then decide (a = a') else decide (a' < a) && decide (a < b'))
  else if k' = 1 then decide (a < a') && decide (a' < b) else decide (a < b') && decide (a' < b)
/-- of a table of marks: 0 inks, 1 kinds, 2 gaps a, 3 gaps b, 4 how many letters, 5 how they are -/
def sC (V : Nat → Nat → Int32) (i j : Nat) : Bool := sCl (V 1 i) (V 2 i) (V 3 i) (V 1 j) (V 2 j) (V 3 j)
/-- the class's table: at c the inks -/
def vC (I : Nat → Nat → Int32) (c : Nat) (w i : Nat) : Int32 := match w with
  | 4 => I (c + 5) i
  | 5 => I (c + 4) i
  | w => I (c + w) i
theorem z10 : ((1 : Int32) = 0) = False := by decide
theorem z00 : ((0 : Int32) = 0) = True := by decide
section C1
variable {X : Nat × (Nat → Int32)} {I : Nat → Nat → Int32}
theorem c13 {i j : Nat} (hi : i < 20) (hj : j < 20) : zr X 13 0 [.ref 5, .int (nI i), .ref 5, .int (nI j), .null, .null] [] (zk I) = some (some (.int (zb (sC (vC I 6) i j))), zk I) := by
  have hi1 := zin_nI hi (by decide)
  have hj1 := zin_nI hj (by decide)
  have ei : zx (nI i) = i := zx_nI (by omega)
  have ej : zx (nI j) = j := zx_nI (by omega)
  simp only [k13_0 hi1, k13_10 hj1, k13_14 hj1, k13_27, k13_31, k13_39, k13_44 hi1 hj1, k13_59, k13_63, k13_65, k13_70 hi1 hj1, k13_85 hi1 hj1, k13_100, k13_104, k13_106, k13_111 hj1 hi1, k13_126 hj1 hi1, k13_141, k13_145, k13_147 hi1 hj1, k13_162 hj1 hi1, k13_177, k13_181, ei, ej, z10, z00, if_true, if_false]
  unfold sC sCl vC
  by_cases a1 : I 7 i = 1
  · by_cases a2 : I 7 j = 1
    · by_cases a3 : I 8 i = I 8 j <;> simp [a1, a2, a3, zb]
    · by_cases a3 : I 8 i ≤ I 8 j
      · simp [a1, a2, a3, zb, Int32.not_lt.mpr a3]
      · by_cases a4 : I 9 j ≤ I 8 i
        · simp [a1, a2, a3, a4, zb, Int32.not_lt.mpr a4]
        · simp [a1, a2, a3, a4, zb, Int32.not_le.mp a3, Int32.not_le.mp a4]
  · by_cases a2 : I 7 j = 1
    · by_cases a3 : I 8 j ≤ I 8 i
      · simp [a1, a2, a3, zb, Int32.not_lt.mpr a3]
      · by_cases a4 : I 9 i ≤ I 8 j
        · simp [a1, a2, a3, a4, zb, Int32.not_lt.mpr a4]
        · simp [a1, a2, a3, a4, zb, Int32.not_le.mp a3, Int32.not_le.mp a4]
    · by_cases a3 : I 9 j ≤ I 8 i
      · simp [a1, a2, a3, zb, Int32.not_lt.mpr a3]
      · by_cases a4 : I 9 i ≤ I 8 j
        · simp [a1, a2, a3, a4, zb, Int32.not_lt.mpr a4]
        · simp [a1, a2, a3, a4, zb, Int32.not_le.mp a3, Int32.not_le.mp a4]
theorem c12 {i j : Nat} (hi : i < 20) (hj : j < 20) : zr X 12 0 [.ref 5, .int (nI i), .int (nI j)] [] (zk I) = some (some (.int (zb (sC (vC I 6) i j))), zk I) := by
  rw [k12_0, c13 hi hj, zcb_some, zn_one, k12_7 (zb_01 _)]
/-- is there one of a state that clashes with a mark -/
def sAny (V : Nat → Nat → Int32) (n m : Nat) (w : Int32) : Bool := zan (fun i => !(nI i == nI m) && (V 5 i == w && sC V m i)) 0 n
theorem c16 {n m : Nat} {w : Int32} (hn : n ≤ 20) (hs : I 5 7 = nI n) (hm : m < 20) : zr X 16 0 [.ref 5, .int (nI m), .int w, .null] [] (zk I) = some (some (.int (zb (sAny (vC I 6) n m w))), zk I) := by
  rw [k16_0]
  have h := zlook (F := fun i => zr X 16 2 [.ref 5, .int (nI m), .int w, .int (nI i)] [] (zk I)) (n := n) (T := some (some (.int 1), zk I)) (E := some (some (.int 0), zk I)) (p := fun i => !(nI i == nI m) && (vC I 6 5 i == w && sC (vC I 6) m i)) ?_ ?_ n 0 (by omega)
  · have h0 : nI 0 = 0 := nI_0
    rw [← h0]
    rw [h]
    unfold sAny
    cases zan (fun i => !(nI i == nI m) && (vC I 6 5 i == w && sC (vC I 6) m i)) 0 n <;> rfl
  · intro i hi
    have hi1 := zin_nI (show i < 20 by omega) (by decide)
    have ei : zx (nI i) = i := zx_nI (by omega)
    rw [k16_2, hs, if_neg (nI_ge hi (by omega)), k16_10]
    by_cases a1 : nI i = nI m
    · rw [if_pos a1, k16_36, ← nI_succ]
      simp [a1]
    · rw [if_neg a1, k16_15 hi1, ei]
      by_cases a2 : I 10 i = w
      · rw [if_neg (fun z => z a2), k16_25, c12 hm (show i < 20 by omega), zcb_some, zn_one, k16_31]
        by_cases a3 : sC (vC I 6) m i = true
        · simp only [a3, zb_t, z10, if_false, k16_34]
          simp [a1, vC, a2]
        · simp only [Bool.not_eq_true] at a3
          simp only [a3, zb_f, z00, if_true, k16_36, ← nI_succ]
          simp
      · rw [if_pos a2, k16_36, ← nI_succ]
        simp [vC, a2]
  · rw [k16_2, hs, if_pos (nI_le (Nat.le_refl _) (by omega)), k16_42]
end C1
