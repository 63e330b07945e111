/-! gaps carried over, by the class and by the reference -/
def aEq (V V' : Nat → Nat → Int32) (n : Nat) : Prop := ∀ i, i < n → (V' 5 i = 1 ↔ V 5 i = 1) ∧ (V 5 i = 1 → ∀ w, w < 5 → V' w i = V w i)
theorem aEq_acc {V V' : Nat → Nat → Int32} {n i : Nat} (h : aEq V V' n) (hi : i < n) : acc V' i = acc V i := decide_eq_decide.mpr (h i hi).1
theorem aEq_sAh {V V' : Nat → Nat → Int32} {n : Nat} {g : Int32} (h : aEq V V' n) : sAh V' n g = sAh V n g := by
  unfold sAh
  refine zfo_congr n 0 g (fun i _ hi a => ?_)
  have hi2 : i < n := by omega
  rw [aEq_acc h hi2]
  by_cases e : V 5 i = 1
  · have r := (h i hi2).2 e
    have e1 : aI V' false g i = aI V false g i := by unfold aI; rw [r 1 (by decide), r 2 (by decide), r 3 (by decide)]
    have e2 : sG V' i = sG V i := by unfold sG; rw [r 2 (by decide), r 3 (by decide), r 4 (by decide)]
    rw [e1, e2]
  · have e1 : acc V i = false := decide_eq_false e
    simp [e1]
theorem aEq_sAt {V V' : Nat → Nat → Int32} {n : Nat} {g : Int32} (h : aEq V V' n) : sAt V' n g = sAt V n g := by
  unfold sAt
  refine zfo_congr n 0 0 (fun i _ hi a => ?_)
  have hi2 : i < n := by omega
  rw [aEq_acc h hi2]
  by_cases e : V 5 i = 1
  · have r := (h i hi2).2 e
    rw [r 1 (by decide), r 2 (by decide), r 4 (by decide)]
  · have e1 : acc V i = false := decide_eq_false e
    simp [e1]
theorem aEq_sAny {V V' : Nat → Nat → Int32} {n m : Nat} (h : aEq V V' n) (hm : ∀ w, w < 4 → V' w m = V w m) : sAny V' n m 1 = sAny V n m 1 := by
  unfold sAny
  refine zan_map (fun i hi => ?_)
  by_cases e : V 5 i = 1
  · have r := (h i hi).2 e
    have e1 : V' 5 i = 1 := (h i hi).1.mpr e
    have e2 : sC V' m i = sC V m i := by
      unfold sC
      rw [hm 1 (by decide), hm 2 (by decide), hm 3 (by decide), r 1 (by decide), r 2 (by decide), r 3 (by decide)]
    rw [e, e1, e2]
  · have e1 : ¬ V' 5 i = 1 := fun z => e ((h i hi).1.mp z)
    rw [beq_eq_false_iff_ne.mpr e, beq_eq_false_iff_ne.mpr e1, Bool.false_and, Bool.false_and]
theorem aEq_sCr {V V' : Nat → Nat → Int32} {U : Nat → Int32} {n g : Nat} {f : Bool} (h : aEq V V' n) (hU : ∀ i, i < n → U i ≠ 0 → V 5 i = 1) : sCr V' U n g f = sCr V U n g f := by
  have hlo : ∀ p, sLo V' U n (nI p) = sLo V U n (nI p) := by
    intro p
    unfold sLo
    refine zan_map (fun i hi => ?_)
    unfold pLo
    by_cases e : U i = 0
    · simp [e]
    · have r := (h i hi).2 (hU i hi e)
      rw [r 2 (by decide), r 3 (by decide)]
  unfold sCr
  rw [zct_at (q := fun p => !sLo V U n (nI p)) (fun p _ => by rw [hlo p])]
  refine zfo_congr n 0 _ (fun i _ hi a => ?_)
  have hi2 : i < n := by omega
  by_cases e : U i = 0
  · simp [e]
  · have r := (h i hi2).2 (hU i hi2 e)
    have e1 : aI V' f (nI g) i = aI V f (nI g) i := by unfold aI; rw [r 1 (by decide), r 2 (by decide), r 3 (by decide)]
    rw [e1, r 4 (by decide)]
section S3
variable {X : Nat × (Nat → Int32)} {I : Nat → Nat → Int32}
/-- printedAhead -/
theorem c32 {n : Nat} {g : Int32} (hn : n ≤ 20) (hs : I 5 7 = nI n) : zr X 32 0 [.ref 5, .int g, .null, .null, .null] [] (zk I) = some (some (.int (sAh (vC I 6) n g)), zk I) := by
  rw [k32_0]
  have h : ∀ k i (a : Int32) (w : Value), i + k = n → zr X 32 4 [.ref 5, .int g, .int a, .int (nI i), w] [] (zk I) = some (some (.int (zfo (fun i a => if (acc (vC I 6) i && aI (vC I 6) false g i) = true then a + sG (vC I 6) i else a) i k a)), zk I) := by
    intro k
    induction k with
    | zero =>
      intro i a w hi
      rw [k32_4, hs, if_pos (nI_le (by omega) (by omega)), k32_86]
      rfl
    | succ k ih =>
      intro i a w hi
      have hi0 := zin_nI (show i < 20 by omega) (show (20 : Nat) < 2 ^ 31 by decide)
      have ez : zx (nI i) = i := zx_nI (by omega)
      have hF : ∀ (r : Option (Option Value × zM)) (a' : Int32), (if (acc (vC I 6) i && aI (vC I 6) false g i) = true then a + sG (vC I 6) i else a) = a' → r = some (some (.int (zfo (fun i a => if (acc (vC I 6) i && aI (vC I 6) false g i) = true then a + sG (vC I 6) i else a) (i + 1) k a')), zk I) → r = some (some (.int (zfo (fun i a => if (acc (vC I 6) i && aI (vC I 6) false g i) = true then a + sG (vC I 6) i else a) i (k + 1) a)), zk I) := by
        rintro r a' rfl h
        exact h
      have hA : acc (vC I 6) i = decide (I 10 i = 1) := rfl
      have hB : aI (vC I 6) false g i = if I 7 i = 1 then decide (I 8 i < g) || (false && decide (I 8 i = g)) else decide (I 9 i ≤ g) := rfl
      have hno : (acc (vC I 6) i && aI (vC I 6) false g i) = false → ∀ x, zr X 32 80 [.ref 5, .int g, .int a, .int (nI i), .int x] [] (zk I) = some (some (.int (zfo (fun i a => if (acc (vC I 6) i && aI (vC I 6) false g i) = true then a + sG (vC I 6) i else a) i (k + 1) a)), zk I) := by
        intro hc x
        rw [k32_80, ← nI_succ]
        exact hF _ a (by rw [hc]; rfl) (ih (i + 1) a _ (by omega))
      have hyes : (acc (vC I 6) i && aI (vC I 6) false g i) = true → zr X 32 67 [.ref 5, .int g, .int a, .int (nI i), .int 1] [] (zk I) = some (some (.int (zfo (fun i a => if (acc (vC I 6) i && aI (vC I 6) false g i) = true then a + sG (vC I 6) i else a) i (k + 1) a)), zk I) := by
        intro hc
        rw [k32_67, if_neg (by decide), k32_72, c20 (by omega), zcb_some, zn_one, k32_78, ← nI_succ]
        exact hF _ _ (if_pos hc) (ih (i + 1) _ _ (by omega))
      rw [k32_4, hs, if_neg (nI_ge (show i < n by omega) (by omega)), k32_12 hi0, ez]
      by_cases b2 : I 7 i = 1
      · rw [if_neg (fun z => z b2), k32_22 hi0, ez]
        by_cases b3 : g ≤ I 8 i
        · have hc : (acc (vC I 6) i && aI (vC I 6) false g i) = false := by
            rw [hB, if_pos b2, decide_eq_false (Int32.not_lt.mpr b3)]
            simp
          rw [if_pos b3, k32_36 hi0, ez]
          by_cases b1 : I 10 i = 1
          · rw [if_neg (fun z => z b1), k32_67, if_pos rfl]
            exact hno hc _
          · rw [if_pos b1]
            exact hno hc _
        · rw [if_neg b3, k32_32 hi0, ez]
          by_cases b1 : I 10 i = 1
          · rw [if_neg (fun z => z b1)]
            exact hyes (by rw [hA, hB, if_pos b2, decide_eq_true b1, decide_eq_true (Int32.not_le.mp b3)]; rfl)
          · rw [if_pos b1]
            exact hno (by rw [hA, decide_eq_false b1]; rfl) _
      · rw [if_pos b2, k32_40 hi0, ez]
        by_cases b3 : g < I 9 i
        · have hc : (acc (vC I 6) i && aI (vC I 6) false g i) = false := by
            rw [hB, if_neg b2, decide_eq_false (Int32.not_le.mpr b3), Bool.and_false]
          rw [if_pos b3, k32_54 hi0, ez]
          by_cases b1 : I 10 i = 1
          · rw [if_neg (fun z => z b1), k32_67, if_pos rfl]
            exact hno hc _
          · rw [if_pos b1]
            exact hno hc _
        · rw [if_neg b3, k32_50 hi0, ez]
          by_cases b1 : I 10 i = 1
          · rw [if_neg (fun z => z b1)]
            exact hyes (by rw [hA, hB, if_neg b2, decide_eq_true b1, decide_eq_true (Int32.not_lt.mp b3)]; rfl)
          · rw [if_pos b1]
            exact hno (by rw [hA, decide_eq_false b1]; rfl) _
  have h1 := h n 0 g .null (by omega)
  rw [nI_0] at h1
  exact h1
/-- printedAt -/
theorem c33 {n : Nat} {g : Int32} (hn : n ≤ 20) (hs : I 5 7 = nI n) : zr X 33 0 [.ref 5, .int g, .null, .null] [] (zk I) = some (some (.int (sAt (vC I 6) n g)), zk I) := by
  rw [k33_0]
  have h := zloop (F := fun i (a : Int32) => zr X 33 4 [.ref 5, .int g, .int a, .int (nI i)] [] (zk I)) (n := n) (R := fun a => some (some (.int a), zk I)) (f := fun i a => if (acc (vC I 6) i && (decide (vC I 6 1 i = 1) && decide (vC I 6 2 i = g))) = true then a + vC I 6 4 i else a) ?_ ?_ n 0 0 (by omega)
  · rw [nI_0] at h
    exact h
  · intro i a hi
    have hi0 := zin_nI (show i < 20 by omega) (show (20 : Nat) < 2 ^ 31 by decide)
    have ez : zx (nI i) = i := zx_nI (by omega)
    have hA : acc (vC I 6) i = decide (I 10 i = 1) := rfl
    have h1 : vC I 6 1 i = I 7 i := rfl
    have h2 : vC I 6 2 i = I 8 i := rfl
    have h4 : vC I 6 4 i = I 11 i := rfl
    rw [k33_4, hs, if_neg (nI_ge hi (by omega)), k33_12 hi0, ez, hA, h1, h2, h4]
    by_cases b1 : I 10 i = 1
    · rw [if_neg (fun z => z b1), k33_22 hi0, ez]
      by_cases b2 : I 7 i = 1
      · rw [if_neg (fun z => z b2), k33_32 hi0, ez]
        by_cases b3 : I 8 i = g
        · rw [if_neg (fun z => z b3), k33_42 hi0, ez, ← nI_succ]
          simp [b1, b2, b3]
        · rw [if_pos b3, k33_51, ← nI_succ]
          simp [b3]
      · rw [if_pos b2, k33_51, ← nI_succ]
        simp [b2]
    · rw [if_pos b1, k33_51, ← nI_succ]
      simp [b1]
  · intro a
    rw [k33_4, hs, if_pos (nI_le (Nat.le_refl _) (by omega)), k33_57]
/-- the reference's carried -/
theorem m154 {n g : Nat} {f : Bool} (hn : n ≤ 20) (hs : I 161 66 = nI n) (hg : g ≤ 1000) : zr X 154 0 [.ref 160, .int (nI g), .int (zb f), .null, .null, .null] [] (zk I) = some (some (.int (sCr (vM I) (I 167) n g f)), zk I) := by
  rw [k154_0]
  have h0 := zloop (F := fun p (a : Int32) => zr X 154 5 [.ref 160, .int (nI g), .int (zb f), .int a, .int (nI p), .null] [] (zk I)) (n := g) (R := fun a => zr X 154 37 [.ref 160, .int (nI g), .int (zb f), .int a, .int 0, .null] [] (zk I)) (f := fun p a => if (!sLo (vM I) (I 167) n (nI p)) = true then a + 1 else a) ?_ ?_ g 0 0 (by omega)
  · rw [nI_0] at h0
    rw [h0]
    have e0 : zfo (fun p a => if (!sLo (vM I) (I 167) n (nI p)) = true then a + 1 else a) 0 g 0 = nI (zct (fun p => !sLo (vM I) (I 167) n (nI p)) g) := sN_zct (fun p => !sLo (vM I) (I 167) n (nI p)) g
    rw [e0]
    have h : ∀ k i (a : Int32) (w : Value), i + k = n → zr X 154 37 [.ref 160, .int (nI g), .int (zb f), .int a, .int (nI i), w] [] (zk I) = some (some (.int (zfo (fun i a => if (!(I 167 i == 0) && aI (vM I) f (nI g) i) = true then a + vM I 4 i else a) i k a)), zk I) := by
      intro k
      induction k with
      | zero =>
        intro i a w hi
        rw [k154_37, hs, if_pos (nI_le (by omega) (by omega)), k154_147]
        rfl
      | succ k ih =>
        intro i a w hi
        have hi0 := zin_nI (show i < 20 by omega) (show (20 : Nat) < 2 ^ 31 by decide)
        have ez : zx (nI i) = i := zx_nI (by omega)
        have hF : ∀ (r : Option (Option Value × zM)) (a' : Int32), (if (!(I 167 i == 0) && aI (vM I) f (nI g) i) = true then a + vM I 4 i else a) = a' → r = some (some (.int (zfo (fun i a => if (!(I 167 i == 0) && aI (vM I) f (nI g) i) = true then a + vM I 4 i else a) (i + 1) k a')), zk I) → r = some (some (.int (zfo (fun i a => if (!(I 167 i == 0) && aI (vM I) f (nI g) i) = true then a + vM I 4 i else a) i (k + 1) a)), zk I) := by
          rintro r a' rfl h
          exact h
        have hno : (!(I 167 i == 0) && aI (vM I) f (nI g) i) = false → ∀ x, zr X 154 138 [.ref 160, .int (nI g), .int (zb f), .int a, .int (nI i), .int x] [.int a] (zk I) = some (some (.int (zfo (fun i a => if (!(I 167 i == 0) && aI (vM I) f (nI g) i) = true then a + vM I 4 i else a) i (k + 1) a)), zk I) := by
          intro hc x
          rw [k154_138, ← nI_succ, z_add0]
          exact hF _ a (by rw [hc]; rfl) (ih (i + 1) a _ (by omega))
        have hyes : (!(I 167 i == 0) && aI (vM I) f (nI g) i) = true → zr X 154 123 [.ref 160, .int (nI g), .int (zb f), .int a, .int (nI i), .int 1] [.int a] (zk I) = some (some (.int (zfo (fun i a => if (!(I 167 i == 0) && aI (vM I) f (nI g) i) = true then a + vM I 4 i else a) i (k + 1) a)), zk I) := by
          intro hc
          rw [k154_123, if_neg (by decide), k154_128, m117_4 (by omega), zcb_some, zn_one, k154_135, ← nI_succ]
          exact hF _ _ (if_pos hc) (ih (i + 1) _ _ (by omega))
        have hU0 : I 167 i = 0 → (!(I 167 i == 0) && aI (vM I) f (nI g) i) = false := fun z => by rw [z]; rfl
        have hN : aI (vM I) f (nI g) i = false → (!(I 167 i == 0) && aI (vM I) f (nI g) i) = false := fun z => by rw [z, Bool.and_false]
        have hY : ¬ I 167 i = 0 → aI (vM I) f (nI g) i = true → (!(I 167 i == 0) && aI (vM I) f (nI g) i) = true := fun z z2 => by rw [z2, beq_eq_false_iff_ne.mpr z]; rfl
        have yes : ∀ w, aI (vM I) f (nI g) i = true → (if I 167 i = 0 then zr X 154 138 [.ref 160, .int (nI g), .int (zb f), .int a, .int (nI i), .int 1] [.int a] (zk I) else zr X 154 123 [.ref 160, .int (nI g), .int (zb f), .int a, .int (nI i), .int 1] [.int a] (zk I)) = w → w = some (some (.int (zfo (fun i a => if (!(I 167 i == 0) && aI (vM I) f (nI g) i) = true then a + vM I 4 i else a) i (k + 1) a)), zk I) := by
          rintro w hq rfl
          by_cases b0 : I 167 i = 0
          · rw [if_pos b0]
            exact hno (hU0 b0) _
          · rw [if_neg b0]
            exact hyes (hY b0 hq)
        have no : ∀ w, aI (vM I) f (nI g) i = false → (if I 167 i = 0 then zr X 154 138 [.ref 160, .int (nI g), .int (zb f), .int a, .int (nI i), .int 0] [.int a] (zk I) else zr X 154 123 [.ref 160, .int (nI g), .int (zb f), .int a, .int (nI i), .int 0] [.int a] (zk I)) = w → w = some (some (.int (zfo (fun i a => if (!(I 167 i == 0) && aI (vM I) f (nI g) i) = true then a + vM I 4 i else a) i (k + 1) a)), zk I) := by
          rintro w hq rfl
          by_cases b0 : I 167 i = 0
          · rw [if_pos b0]
            exact hno (hU0 b0) _
          · rw [if_neg b0, k154_123, if_pos rfl]
            exact hno (hN hq) _
        rw [k154_37, hs, if_neg (nI_ge (show i < n by omega) (by omega)), k154_49, m117_1 (by omega), zcb_some, zn_one, k154_56]
        by_cases b2 : vM I 1 i = 1
        · rw [if_neg (fun z => z b2), k154_60, m117_2 (by omega), zcb_some, zn_one, k154_67]
          by_cases b3 : vM I 2 i < nI g
          · rw [if_pos b3, k154_86 hi0, ez]
            exact yes _ (by unfold aI; rw [if_pos b2, decide_eq_true b3]; rfl) rfl
          · rw [if_neg b3, k154_71]
            cases f with
            | false =>
              rw [zb_f, if_pos rfl, k154_90 hi0, ez]
              exact no _ (by unfold aI; rw [if_pos b2, decide_eq_false b3]; rfl) rfl
            | true =>
              rw [zb_t, if_neg (by decide), k154_75, m117_2 (by omega), zcb_some, zn_one, k154_82]
              by_cases b4 : vM I 2 i = nI g
              · rw [if_neg (fun z => z b4), k154_86 hi0, ez]
                exact yes _ (by unfold aI; rw [if_pos b2, decide_eq_true b4]; simp) rfl
              · rw [if_pos b4, k154_90 hi0, ez]
                exact no _ (by unfold aI; rw [if_pos b2, decide_eq_false b3, decide_eq_false b4]; rfl) rfl
        · rw [if_pos b2, k154_94, m117_3 (by omega), zcb_some, zn_one, k154_101]
          by_cases b3 : nI g < vM I 3 i
          · rw [if_pos b3, k154_109 hi0, ez]
            exact no _ (by unfold aI; rw [if_neg b2, decide_eq_false (Int32.not_le.mpr b3)]) rfl
          · rw [if_neg b3, k154_105 hi0, ez]
            exact yes _ (by unfold aI; rw [if_neg b2, decide_eq_true (Int32.not_lt.mp b3)]) rfl
    have h1 := h n 0 (nI (zct (fun p => !sLo (vM I) (I 167) n (nI p)) g)) .null (by omega)
    rw [nI_0] at h1
    exact h1
  · intro p a hp
    rw [k154_5, if_neg (nI_ge hp (by omega)), k154_11, m131 hn hs, zcb_some, zn_one, k154_18]
    by_cases b : sLo (vM I) (I 167) n (nI p) = true
    · rw [b, zb_t, if_neg (by decide), k154_21, ← nI_succ, z_add0]
      rfl
    · rw [Bool.not_eq_true] at b
      rw [b, zb_f, if_pos rfl, k154_25, ← nI_succ]
      rfl
  · intro a
    rw [k154_5, if_pos (nI_le (Nat.le_refl _) (by omega)), k154_34]
end S3
