/-! the reference's rows: copies, what is laid, what is against its own ink -/
/-- a row whose places from off on are filled, k of them, out of g -/
def zfw (I : Nat → Nat → Int32) (d off : Nat) (g : Nat → Int32) (k : Nat) : Nat → Nat → Int32 := zup I d (fun j => if off ≤ j ∧ j < off + k then g (j - off) else I d j)
theorem zup_ne {I : Nat → Nat → Int32} {d t : Nat} {f : Nat → Int32} (h : t ≠ d) : zup I d f t = I t := if_neg h
theorem zup_self {I : Nat → Nat → Int32} {d : Nat} {f : Nat → Int32} : zup I d f d = f := if_pos rfl
theorem zup_id {I : Nat → Nat → Int32} {d : Nat} {f : Nat → Int32} (h : f = I d) : zup I d f = I := by
  funext t
  unfold zup
  by_cases e : t = d
  · rw [if_pos e, e, h]
  · rw [if_neg e]
theorem zup_zup {I : Nat → Nat → Int32} {d : Nat} {f g : Nat → Int32} : zup (zup I d f) d g = zup I d g := by
  funext t
  unfold zup
  by_cases e : t = d
  · rw [if_pos e, if_pos e]
  · rw [if_neg e, if_neg e, if_neg e]
theorem zup_comm {I : Nat → Nat → Int32} {d e : Nat} {f g : Nat → Int32} (h : d ≠ e) : zup (zup I d f) e g = zup (zup I e g) d f := by
  funext t
  unfold zup
  by_cases e1 : t = e
  · rw [if_pos e1, if_neg (by omega), if_pos e1]
  · rw [if_neg e1]
    by_cases e2 : t = d
    · rw [if_pos e2, if_pos e2]
    · rw [if_neg e2, if_neg e2, if_neg e1]
theorem zfw_ne {I : Nat → Nat → Int32} {d off k t : Nat} {g : Nat → Int32} (h : t ≠ d) : zfw I d off g k t = I t := zup_ne h
theorem zfw_self {I : Nat → Nat → Int32} {d off k j : Nat} {g : Nat → Int32} : zfw I d off g k d j = if off ≤ j ∧ j < off + k then g (j - off) else I d j := by
  unfold zfw
  rw [zup_self]
theorem zfw_0 {I : Nat → Nat → Int32} {d off : Nat} {g : Nat → Int32} : zfw I d off g 0 = I := by
  refine zup_id ?_
  funext j
  exact if_neg (by omega)
theorem zfw_succ {I : Nat → Nat → Int32} {d off k : Nat} {g : Nat → Int32} : zs1 (zfw I d off g k) d (off + k) (g k) = zfw I d off g (k + 1) := by
  unfold zs1 zfw
  rw [zup_zup]
  congr 1
  funext j
  rw [zup_self, upd_at]
  by_cases e : j = off + k
  · rw [if_pos e, if_pos (by omega), e, show off + k - off = k by omega]
  · rw [if_neg e]
    by_cases e2 : off ≤ j ∧ j < off + k
    · rw [if_pos e2, if_pos (by omega)]
    · rw [if_neg e2, if_neg (by omega)]
theorem zfill {f : Nat → (Nat → Nat → Int32) → Nat → Nat → Int32} {I : Nat → Nat → Int32} {d off : Nat} {g : Nat → Int32} : ∀ (n : Nat), (∀ j, j < n → f j (zfw I d off g j) = zs1 (zfw I d off g j) d (off + j) (g j)) → zfo f 0 n I = zfw I d off g n
  | 0, _ => zfw_0.symm
  | n + 1, h => by
    rw [zfo_last, zfill n (fun j hj => h j (by omega)), Nat.zero_add, h n (Nat.lt_succ_self n), zfw_succ]
section M2
variable {X : Nat × (Nat → Int32)} {I : Nat → Nat → Int32}
theorem nI_nge {a b : Nat} (h : a < b) (hb : b < 2 ^ 31) : ¬ nI b ≤ nI a := nI_ge h hb
/-- putAside -/
theorem m122 : zr X 122 0 [.ref 160, .null] [] (zk I) = some (none, zk (zfw I 162 0 (I 161) 675)) := by
  rw [k122_0]
  have h := zloop (F := fun i (J : Nat → Nat → Int32) => zr X 122 2 [.ref 160, .int (nI i)] [] (zk J)) (n := 675) (R := fun J => some (none, zk J)) (f := fun i J => zs1 J 162 i (J 161 i)) ?_ ?_ 675 0 I (by omega)
  · have h0 : nI 0 = 0 := nI_0
    rw [h0] at h
    rw [h, zfill (g := I 161) (off := 0) (d := 162) 675 (fun j hj => by rw [zfw_ne (show (161 : Nat) ≠ 162 by decide), Nat.zero_add])]
  · intro i J hi
    rw [k122_2, if_neg (show ¬ (675 : Int32) ≤ nI i from nI_ge (b := 675) hi (by decide)), k122_9 (zin_nI hi (by decide)), zx_nI (by omega), ← nI_succ]
  · intro J
    rw [k122_2, if_pos (show (675 : Int32) ≤ nI 675 by decide), k122_27]
/-- takeBack -/
theorem m123 : zr X 123 0 [.ref 160, .null] [] (zk I) = some (none, zk (zfw I 161 0 (I 162) 675)) := by
  rw [k123_0]
  have h := zloop (F := fun i (J : Nat → Nat → Int32) => zr X 123 2 [.ref 160, .int (nI i)] [] (zk J)) (n := 675) (R := fun J => some (none, zk J)) (f := fun i J => zs1 J 161 i (J 162 i)) ?_ ?_ 675 0 I (by omega)
  · have h0 : nI 0 = 0 := nI_0
    rw [h0] at h
    rw [h, zfill (g := I 162) (off := 0) (d := 161) 675 (fun j hj => by rw [zfw_ne (show (162 : Nat) ≠ 161 by decide), Nat.zero_add])]
  · intro i J hi
    rw [k123_2, if_neg (show ¬ (675 : Int32) ≤ nI i from nI_ge (b := 675) hi (by decide)), k123_9 (zin_nI hi (by decide)), zx_nI (by omega), ← nI_succ]
  · intro J
    rw [k123_2, if_pos (show (675 : Int32) ≤ nI 675 by decide), k123_27]
theorem z675 (u k : Nat) : (675 : Int32) * nI u + nI k = nI (675 * u + k) := by
  rw [zI_add, zI_mul]
  rfl
/-- records, its second half: u states are kept already, fewer than six -/
theorem m121b {u : Nat} (hu : u < 6) (hs : I 160 4 = nI u) : zr X 121 52 [.ref 160, .int 0] [] (zk I) = some (none, zk (zs1 (zfw I 163 (675 * u) (I 161) 675) 160 4 (nI (u + 1)))) := by
  have h := zloopP (F := fun i (J : Nat → Nat → Int32) => zr X 121 52 [.ref 160, .int (nI i)] [] (zk J)) (n := 675) (R := fun J => some (none, zk (zs1 J 160 4 (nI (u + 1))))) (f := fun i J => zs1 J 163 (675 * u + i) (J 161 i)) (fun _ J => J 160 4 = nI u) ?_ ?_ 675 0 I (by omega) hs
  · have h0 : nI 0 = 0 := nI_0
    rw [h0] at h
    rw [h, zfill (g := I 161) (off := 675 * u) (d := 163) 675 (fun j hj => by rw [zfw_ne (show (161 : Nat) ≠ 163 by decide)])]
  · intro i J hi hJ
    refine ⟨?_, by rw [zs1_ne (show (160 : Nat) ≠ 163 by decide)]; exact hJ⟩
    have hq : zin ((675 * J 160 4) + nI i) 4050 = true := by
      rw [hJ, z675]
      exact zin_nI (by omega) (by decide)
    rw [k121_52, if_neg (show ¬ (675 : Int32) ≤ nI i from nI_ge (b := 675) hi (by decide)), k121_59 (zin_nI hi (by decide)) hq, zx_nI (by omega), hJ, z675, zx_nI (by omega), ← nI_succ]
  · intro J hJ
    rw [k121_52, if_pos (show (675 : Int32) ≤ nI 675 by decide), k121_86, hJ, ← nI_succ]
theorem m121 {u : Nat} (hu : u < 6) (hs : I 160 4 = nI u) : zr X 121 0 [.ref 160, .null] [] (zk I) = some (none, zk (zs1 (zfw I 163 (675 * u) (I 161) 675) 160 4 (nI (u + 1)))) := by
  rw [k121_0, if_pos (by rw [hs]; exact fun z => by have := (nI_inj (b := 6) (by omega) (by decide)).mp z; omega), k121_50, m121b hu hs]
theorem m121s (hs : I 160 4 = nI 6) : zr X 121 0 [.ref 160, .null] [] (zk I) = some (none, zk (zs1 (zfw (zs1 (zfw I 163 0 (fun k => I 163 (k + 675)) 3375) 160 4 (nI 5)) 163 3375 (I 161) 675) 160 4 (nI 6))) := by
  have hs6 : I 160 4 = 6 := hs
  rw [k121_0, if_neg (fun z => z hs6), k121_9]
  have h := zloopP (F := fun i (J : Nat → Nat → Int32) => zr X 121 11 [.ref 160, .int (nI i)] [] (zk J)) (n := 3375) (R := fun J => zr X 121 52 [.ref 160, .int 0] [] (zk (zs1 J 160 4 (nI 5)))) (f := fun i J => zs1 J 163 i (J 163 (i + 675))) (fun _ J => J 160 4 = nI 6) ?_ ?_ 3375 0 I (by omega) hs
  · have h0 : nI 0 = 0 := nI_0
    rw [h0] at h
    rw [h, zfill (g := fun k => I 163 (k + 675)) (off := 0) (d := 163) 3375 (fun j hj => by rw [Nat.zero_add, zfw_self, if_neg (by omega)]), m121b (u := 5) (by decide) (by rw [zs1_self]; rfl), zs1_ne (show (161 : Nat) ≠ 160 by decide), zfw_ne (show (161 : Nat) ≠ 163 by decide)]
  · intro i J hi hJ
    refine ⟨?_, by rw [zs1_ne (show (160 : Nat) ≠ 163 by decide)]; exact hJ⟩
    have e : nI i + 675 = nI (i + 675) := by rw [zI_add]; rfl
    rw [k121_11, if_neg (show ¬ (3375 : Int32) ≤ nI i from nI_ge (b := 3375) hi (by decide)), k121_18 (by rw [e]; exact zin_nI (by omega) (by decide)) (zin_nI (by omega) (by decide)), zx_nI (by omega), e, zx_nI (by omega), ← nI_succ]
  · intro J hJ
    rw [k121_11, if_pos (show (3375 : Int32) ≤ nI 3375 by decide), k121_40, hJ]
    rfl
/-- lays -/
theorem m118 {i w : Nat} {v : Int32} (hi : i ≤ 20) (hw : w < 12) : zr X 118 0 [.ref 160, .int (nI i), .int (nI w), .int v] [] (zk I) = some (none, zk (zs1 I 161 (67 + 12 * i + w) v)) := by
  have e := nI_row i w
  rw [k118_0 (by rw [e]; exact zin_nI (by omega) (by decide)), e, zx_nI (by omega)]
/-- clears -/
theorem m139 {i : Nat} (hi : i ≤ 20) : zr X 139 0 [.ref 160, .int (nI i), .null] [] (zk I) = some (none, zk (zfw I 161 (67 + 12 * i) (fun _ => 0) 12)) := by
  rw [k139_0]
  have h := zloop (F := fun j (J : Nat → Nat → Int32) => zr X 139 2 [.ref 160, .int (nI i), .int (nI j)] [] (zk J)) (n := 12) (R := fun J => some (none, zk J)) (f := fun j J => zs1 J 161 (67 + 12 * i + j) 0) ?_ ?_ 12 0 I (by omega)
  · have h0 : nI 0 = 0 := nI_0
    rw [h0] at h
    rw [h, zfill (g := fun _ => 0) (off := 67 + 12 * i) (d := 161) 12 (fun j hj => rfl)]
  · intro j J hj
    rw [k139_2, if_neg (show ¬ (12 : Int32) ≤ nI j from nI_ge (b := 12) hj (by decide)), k139_8, m118 hi hj, zcb_some, zn_nil, k139_15, ← nI_succ]
  · intro J
    rw [k139_2, if_pos (show (12 : Int32) ≤ nI 12 by decide), k139_21]
/-- a loop that keeps whether there was one -/
theorem zanloop {α : Type} {F : Bool → Nat → α} {R : Bool → α} {q : Nat → Bool} {n : Nat} (hb : ∀ i p, i < n → F p i = F (p || q i) (i + 1)) (he : ∀ p, F p n = R p) : ∀ (k i : Nat) (p : Bool), i + k = n → F p i = R (p || zan q i k)
  | 0, i, p, h => by
    rw [show i = n by omega, he]
    show R p = R (p || false)
    rw [Bool.or_false]
  | k + 1, i, p, h => by
    rw [hb i p (by omega), zanloop hb he k (i + 1) (p || q i) (by omega), Bool.or_assoc]
    rfl
/-- is one of n marks, of its ink and not refused, against a mark -/
def pOwn (V : Nat → Nat → Int32) (m i : Nat) : Bool := V 0 i == V 0 m && (!(V 5 i == 2) && sC V m i)
def sOwn (V : Nat → Nat → Int32) (n m : Nat) : Bool := zan (pOwn V m) 0 n
theorem m138 {m : Nat} (hm : m ≤ 20) : zr X 138 0 [.ref 160, .int (nI m), .null, .null] [] (zk I) = some (some (.int (zb (sOwn (vM I) m m))), zk I) := by
  rw [k138_0]
  have h := zanloop (F := fun p i => zr X 138 4 [.ref 160, .int (nI m), .int (zb p), .int (nI i)] [] (zk I)) (R := fun p => some (some (.int (zb p)), zk I)) (q := pOwn (vM I) m) (n := m) ?_ ?_ m 0 false (by omega)
  · have h0 : nI 0 = 0 := nI_0
    rw [h0, zb_f] at h
    exact h
  · intro i p hi
    have hi2 : i ≤ 20 := by omega
    rw [k138_4, if_neg (nI_ge hi (by omega)), k138_9]
    cases p with
    | true =>
      simp only [zb_t, z10, not_false_eq_true, if_true, k138_47, ← nI_succ]
      rfl
    | false =>
      simp only [zb_f, z00, not_true, if_false, k138_13, m117_0 hi2, m117_0 hm, zcb_some, zn_one, k138_19, k138_25]
      by_cases a1 : vM I 0 i = vM I 0 m
      · rw [if_neg (fun z => z a1), k138_28, m117_5 hi2, zcb_some, zn_one, k138_34]
        by_cases a2 : vM I 5 i = 2
        · rw [if_pos a2, k138_51, ← nI_succ, show pOwn (vM I) m i = false by simp [pOwn, a2]]
          rfl
        · rw [if_neg a2, k138_38, m124 hm hi2, zcb_some, zn_one, k138_44]
          by_cases a3 : sC (vM I) m i = true
          · simp only [a3, zb_t, z10, if_false, k138_47, ← nI_succ]
            rw [show pOwn (vM I) m i = true by simp [pOwn, a1, a2, a3]]
            rfl
          · simp only [Bool.not_eq_true] at a3
            simp only [a3, zb_f, z00, if_true, k138_51, ← nI_succ]
            rw [show pOwn (vM I) m i = false by simp [pOwn, a3]]
            rfl
      · rw [if_pos a1, k138_51, ← nI_succ, show pOwn (vM I) m i = false by simp [pOwn, a1]]
        rfl
  · intro p
    rw [k138_4, if_pos (nI_le (Nat.le_refl _) (by omega)), k138_59 (zb_01 _)]
/-- does an open mark of an ink clash with a mark -/
def pOp (V : Nat → Nat → Int32) (m : Nat) (e : Int32) (i : Nat) : Bool := !(nI i == nI m) && (V 0 i == e && (V 5 i == 0 && sC V m i))
def sOp (V : Nat → Nat → Int32) (n m : Nat) (e : Int32) : Bool := zan (pOp V m e) 0 n
theorem m134 {n m : Nat} {e : Int32} (hn : n ≤ 20) (hs : I 161 66 = nI n) (hm : m ≤ 20) : zr X 134 0 [.ref 160, .int (nI m), .int e, .null, .null] [] (zk I) = some (some (.int (zb (sOp (vM I) n m e))), zk I) := by
  rw [k134_0]
  have h := zanloop (F := fun p i => zr X 134 5 [.ref 160, .int (nI m), .int e, .int (zb p), .int (nI i)] [] (zk I)) (R := fun p => some (some (.int (zb p)), zk I)) (q := pOp (vM I) m e) (n := n) ?_ ?_ n 0 false (by omega)
  · have h0 : nI 0 = 0 := nI_0
    rw [h0, zb_f] at h
    exact h
  · intro i p hi
    have hi2 : i ≤ 20 := by omega
    rw [k134_5, hs, if_neg (nI_ge hi (by omega)), k134_17]
    cases p with
    | true =>
      simp only [zb_t, z10, not_false_eq_true, if_true, k134_58, ← nI_succ]
      rfl
    | false =>
      simp only [zb_f, z00, not_true, if_false, k134_21]
      by_cases a0 : nI i = nI m
      · rw [if_pos a0, k134_62, ← nI_succ, show pOp (vM I) m e i = false by simp [pOp, a0]]
        rfl
      · rw [if_neg a0, k134_27, m117_0 hi2, zcb_some, zn_one, k134_34]
        by_cases a1 : vM I 0 i = e
        · rw [if_neg (fun z => z a1), k134_38, m117_5 hi2, zcb_some, zn_one, k134_45]
          by_cases a2 : vM I 5 i = 0
          · rw [if_neg (fun z => z a2), k134_48, m124 hm hi2, zcb_some, zn_one, k134_55]
            by_cases a3 : sC (vM I) m i = true
            · simp only [a3, zb_t, z10, if_false, k134_58, ← nI_succ]
              rw [show pOp (vM I) m e i = true by simp [pOp, a0, a1, a2, a3]]
              rfl
            · simp only [Bool.not_eq_true] at a3
              simp only [a3, zb_f, z00, if_true, k134_62, ← nI_succ]
              rw [show pOp (vM I) m e i = false by simp [pOp, a3]]
              rfl
          · rw [if_pos a2, k134_62, ← nI_succ, show pOp (vM I) m e i = false by simp [pOp, a2]]
            rfl
        · rw [if_pos a1, k134_62, ← nI_succ, show pOp (vM I) m e i = false by simp [pOp, a1]]
          rfl
  · intro p
    rw [k134_5, hs, if_pos (nI_le (Nat.le_refl _) (by omega)), k134_70 (zb_01 _)]
/-- is a letter left out by one of n marks that are used -/
def pLo (V : Nat → Nat → Int32) (U : Nat → Int32) (g : Int32) (i : Nat) : Bool := !(U i == 0) && (decide (¬ g < V 2 i) && decide (¬ V 3 i - 1 < g))
def sLo (V : Nat → Nat → Int32) (U : Nat → Int32) (n : Nat) (g : Int32) : Bool := zan (pLo V U g) 0 n
theorem m131 {n : Nat} {g : Int32} (hn : n ≤ 20) (hs : I 161 66 = nI n) : zr X 131 0 [.ref 160, .int g, .null, .null] [] (zk I) = some (some (.int (zb (sLo (vM I) (I 167) n g))), zk I) := by
  rw [k131_0]
  have h := zanloop (F := fun p i => zr X 131 4 [.ref 160, .int g, .int (zb p), .int (nI i)] [] (zk I)) (R := fun p => some (some (.int (zb p)), zk I)) (q := pLo (vM I) (I 167) g) (n := n) ?_ ?_ n 0 false (by omega)
  · have h0 : nI 0 = 0 := nI_0
    rw [h0, zb_f] at h
    exact h
  · intro i p hi
    have hi2 : i ≤ 20 := by omega
    have hi1 : zin (nI i) 20 = true := zin_nI (by omega) (by decide)
    rw [k131_4, hs, if_neg (nI_ge hi (by omega)), k131_15]
    cases p with
    | true =>
      simp only [zb_t, z10, not_false_eq_true, if_true, k131_49, ← nI_succ]
      rfl
    | false =>
      simp only [zb_f, z00, not_true, if_false]
      rw [k131_19 hi1, zx_nI (by omega)]
      by_cases a0 : I 167 i = 0
      · rw [if_pos a0, k131_53, ← nI_succ, show pLo (vM I) (I 167) g i = false by simp [pLo, a0]]
        rfl
      · rw [if_neg a0, k131_28, m117_2 hi2, zcb_some, zn_one, k131_35, m117_3 hi2, zcb_some, zn_one, k131_41, m116, zcb_some, zn_one, k131_46]
        have hu : (!(I 167 i == 0)) = true := by simp [a0]
        have e : pLo (vM I) (I 167) g i = (decide (¬ g < vM I 2 i) && decide (¬ vM I 3 i - 1 < g)) := by
          unfold pLo
          rw [hu, Bool.true_and]
        by_cases a3 : (decide (¬ g < vM I 2 i) && decide (¬ vM I 3 i - 1 < g)) = true
        · rw [e, a3]
          simp only [zb_t, z10, if_false, k131_49, ← nI_succ]
          rfl
        · simp only [Bool.not_eq_true] at a3
          rw [e, a3]
          simp only [zb_f, z00, if_true, k131_53, ← nI_succ]
          rfl
  · intro p
    rw [k131_4, hs, if_pos (nI_le (Nat.le_refl _) (by omega)), k131_61 (zb_01 _)]
end M2
