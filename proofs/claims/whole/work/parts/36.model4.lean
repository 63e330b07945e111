/-! the reference: prints, shows, rank, laysMark, canAccept -/
theorem zan_map {p q : Nat → Bool} {n : Nat} (h : ∀ j, j < n → p j = q j) : zan p 0 n = zan q 0 n := zan_congr n 0 (fun j _ hj => h j (by omega))
theorem sLo_congr {V : Nat → Nat → Int32} {U U' : Nat → Int32} {n : Nat} {g : Int32} (h : ∀ i, i < n → U i = U' i) : sLo V U n g = sLo V U' n g := by
  unfold sLo
  refine zan_map (fun j hj => ?_)
  unfold pLo
  rw [h j hj]
theorem sWr_congr {V : Nat → Nat → Int32} {Lt : Nat → List Int32} {U U' : Nat → Int32} {g k : Int32} {n : Nat} {l : List Int32} (h : ∀ i, i < n → U i = U' i) : sWr V Lt U g k n l = sWr V Lt U' g k n l := by
  unfold sWr
  refine zfo_congr n 0 l (fun j _ hj a => ?_)
  unfold pWr
  rw [h j (by omega)]
theorem sPr_congr {T : Nat → Int32} {V : Nat → Nat → Int32} {Lt : Nat → List Int32} {U U' : Nat → Int32} {n t : Nat} (h : ∀ i, i < n → U i = U' i) : sPr T V Lt U n t = sPr T V Lt U' n t := by
  unfold sPr
  refine zfo_congr _ _ _ (fun j _ _ a => ?_)
  unfold sGp
  rw [sLo_congr h, sWr_congr (U := U) (U' := U') h, sWr_congr (U := U) (U' := U') h]
/-- which marks an editor sees carried out -/
def uSh (V : Nat → Nat → Int32) (n : Nat) (e : Int32) (i : Nat) : Bool := if V 5 i = 1 then !sOp V n i e else decide (V 5 i = 0) && decide (V 0 i = e)
section M4
variable {X : Nat × (Nat → Int32)} {I : Nat → Nat → Int32}
theorem vM_zfw {d o k : Nat} {g : Nat → Int32} (h : d ≠ 161) : vM (zfw I d o g k) = vM I := by
  funext w i
  unfold vM
  rw [zfw_ne (fun z => h z.symm)]
theorem zfw_le {g : Nat → Int32} {d n i : Nat} (h : i < n) : zfw I d 0 g n d i = g i := by
  rw [zfw_self, if_pos (by omega), Nat.sub_zero]
theorem sLt_zfw {d o k : Nat} {g : Nat → Int32} (h : d ≠ 161) : sLt (zfw I d o g k) = sLt I := by
  funext i
  unfold sLt
  rw [vM_zfw h]
/-- carriesOut of marks that were chosen -/
theorem m132u {n t : Nat} {g : Nat → Int32} (hn : n ≤ 20) (ht : t ≤ 60) (hs : I 161 66 = nI n) (hs2 : I 161 0 = nI t) (hp : ∀ i, i < n → zx (vM I 4 i) ≤ 6 ∧ ¬ vM I 4 i < 0) (hl : (sPr (fun g => I 161 (1 + g)) (vM I) (sLt I) g n t).length ≤ 180) :
    zr X 132 0 [.ref 160, .null] [] (zk (zfw I 167 0 g n)) = some (none, zk (zlw (zfw I 167 0 g n) (sPr (fun g => I 161 (1 + g)) (vM I) (sLt I) g n t))) := by
  have e := sPr_congr (T := fun g => I 161 (1 + g)) (V := vM I) (Lt := sLt I) (U := zfw I 167 0 g n 167) (U' := g) (n := n) (t := t) (fun i hi => zfw_le hi)
  have h := m132 (X := X) (I := zfw I 167 0 g n) hn ht (by rw [zfw_ne (by decide)]; exact hs) (by rw [zfw_ne (by decide)]; exact hs2) (by rw [vM_zfw (by decide)]; exact hp)
  rw [vM_zfw (by decide), sLt_zfw (by decide), zfw_ne (t := 161) (by decide), e] at h
  exact h hl
/-- prints -/
theorem m133 {n t : Nat} (hn : n ≤ 20) (ht : t ≤ 60) (hs : I 161 66 = nI n) (hs2 : I 161 0 = nI t) (hp : ∀ i, i < n → zx (vM I 4 i) ≤ 6 ∧ ¬ vM I 4 i < 0) (hl : (sPr (fun g => I 161 (1 + g)) (vM I) (sLt I) (fun i => zb (decide (vM I 5 i = 1))) n t).length ≤ 180) :
    zr X 133 0 [.ref 160, .null] [] (zk I) = some (none, zk (zlw (zfw I 167 0 (fun i => zb (decide (vM I 5 i = 1))) n) (sPr (fun g => I 161 (1 + g)) (vM I) (sLt I) (fun i => zb (decide (vM I 5 i = 1))) n t))) := by
  rw [k133_0]
  have h : ∀ k i, i + k = n → zr X 133 2 [.ref 160, .int (nI i)] [] (zk (zfw I 167 0 (fun i => zb (decide (vM I 5 i = 1))) i)) = zr X 133 40 [.ref 160, .int (nI n)] [] (zk (zfw I 167 0 (fun i => zb (decide (vM I 5 i = 1))) n)) := by
    intro k
    induction k with
    | zero =>
      intro i h
      have e : i = n := by omega
      subst e
      rw [k133_2, zfw_ne (by decide), hs, if_pos (nI_le (by omega) (by omega))]
    | succ k ih =>
      intro i h
      have e := zfw_succ (I := I) (d := 167) (off := 0) (k := i) (g := fun i => zb (decide (vM I 5 i = 1)))
      rw [Nat.zero_add] at e
      rw [k133_2, zfw_ne (by decide), hs, if_neg (nI_ge (show i < n by omega) (by omega)), k133_13, m117_5 (by omega), zcb_some, zn_one, k133_24, vM_zfw (by decide)]
      by_cases a : vM I 5 i = 1
      · rw [if_neg (fun z => z a), k133_28 (zin_nI (by omega) (by decide)), zx_nI (by omega), ← nI_succ, ← ih (i + 1) (by omega), ← e, decide_eq_true a]
        rfl
      · rw [if_pos a, k133_32 (zin_nI (by omega) (by decide)), zx_nI (by omega), ← nI_succ, ← ih (i + 1) (by omega), ← e, decide_eq_false a]
        rfl
  have h1 := h n 0 (by omega)
  rw [zfw_0, nI_0] at h1
  rw [h1, k133_40, m132u hn ht hs hs2 hp hl, zcb_some, zn_nil, k133_44]
/-- shows -/
theorem m135 {n t : Nat} {v : Int32} (hn : n ≤ 20) (ht : t ≤ 60) (hs : I 161 66 = nI n) (hs2 : I 161 0 = nI t) (hp : ∀ i, i < n → zx (vM I 4 i) ≤ 6 ∧ ¬ vM I 4 i < 0) (hl : (sPr (fun g => I 161 (1 + g)) (vM I) (sLt I) (fun i => zb (uSh (vM I) n v i)) n t).length ≤ 180) :
    zr X 135 0 [.ref 160, .int v, .null] [] (zk I) = some (none, zk (zlw (zfw I 167 0 (fun i => zb (uSh (vM I) n v i)) n) (sPr (fun g => I 161 (1 + g)) (vM I) (sLt I) (fun i => zb (uSh (vM I) n v i)) n t))) := by
  rw [k135_0]
  have h : ∀ k i, i + k = n → zr X 135 2 [.ref 160, .int v, .int (nI i)] [] (zk (zfw I 167 0 (fun i => zb (uSh (vM I) n v i)) i)) = zr X 135 76 [.ref 160, .int v, .int (nI n)] [] (zk (zfw I 167 0 (fun i => zb (uSh (vM I) n v i)) n)) := by
    intro k
    induction k with
    | zero =>
      intro i h
      have e : i = n := by omega
      subst e
      rw [k135_2, zfw_ne (by decide), hs, if_pos (nI_le (by omega) (by omega))]
    | succ k ih =>
      intro i h
      have e := zfw_succ (I := I) (d := 167) (off := 0) (k := i) (g := fun i => zb (uSh (vM I) n v i))
      rw [Nat.zero_add] at e
      have hs' : zfw I 167 0 (fun i => zb (uSh (vM I) n v i)) i 161 66 = nI n := by rw [zfw_ne (by decide)]; exact hs
      rw [k135_2, hs', if_neg (nI_ge (show i < n by omega) (by omega)), k135_13, m117_5 (by omega), zcb_some, zn_one, k135_24, vM_zfw (by decide)]
      by_cases a : vM I 5 i = 1
      · rw [if_neg (fun z => z a), k135_28, m134 hn hs' (by omega), zcb_some, zn_one, k135_34, vM_zfw (by decide)]
        by_cases b : sOp (vM I) n i v = true
        · have u : uSh (vM I) n v i = false := by unfold uSh; rw [if_pos a, b]; rfl
          rw [b, zb_t, if_pos (by decide), k135_41 (zin_nI (by omega) (by decide)), zx_nI (by omega), ← nI_succ, ← ih (i + 1) (by omega), ← e, u]
          rfl
        · rw [Bool.not_eq_true] at b
          have u : uSh (vM I) n v i = true := by unfold uSh; rw [if_pos a, b]; rfl
          rw [b, zb_f, if_neg (by decide), k135_37 (zin_nI (by omega) (by decide)), zx_nI (by omega), ← nI_succ, ← ih (i + 1) (by omega), ← e, u]
          rfl
      · rw [if_pos a, k135_45, m117_5 (by omega), zcb_some, zn_one, k135_51, vM_zfw (by decide)]
        by_cases b : vM I 5 i = 0
        · rw [if_neg (fun z => z b), k135_54, m117_0 (by omega), zcb_some, zn_one, k135_60, vM_zfw (by decide)]
          by_cases c : vM I 0 i = v
          · have u : uSh (vM I) n v i = true := by unfold uSh; rw [if_neg a, decide_eq_true b, decide_eq_true c]; rfl
            rw [if_neg (fun z => z c), k135_64 (zin_nI (by omega) (by decide)), zx_nI (by omega), ← nI_succ, ← ih (i + 1) (by omega), ← e, u]
            rfl
          · have u : uSh (vM I) n v i = false := by unfold uSh; rw [if_neg a, decide_eq_true b, decide_eq_false c]; rfl
            rw [if_pos c, k135_68 (zin_nI (by omega) (by decide)), zx_nI (by omega), ← nI_succ, ← ih (i + 1) (by omega), ← e, u]
            rfl
        · have u : uSh (vM I) n v i = false := by unfold uSh; rw [if_neg a, decide_eq_false b]; rfl
          rw [if_pos b, k135_68 (zin_nI (by omega) (by decide)), zx_nI (by omega), ← nI_succ, ← ih (i + 1) (by omega), ← e, u]
          rfl
  have h1 := h n 0 (by omega)
  rw [zfw_0, nI_0] at h1
  rw [h1, k135_76, m132u hn ht hs hs2 hp hl, zcb_some, zn_nil, k135_80]
/-- laysMark -/
def zlay (I : Nat → Nat → Int32) (n : Nat) (a b c d : Int32) : Nat → Nat → Int32 := zs1 (zs1 (zs1 (zs1 (zfw I 161 (67 + 12 * n) (fun _ => 0) 12) 161 (67 + 12 * n + 0) a) 161 (67 + 12 * n + 1) b) 161 (67 + 12 * n + 2) c) 161 (67 + 12 * n + 3) d
theorem m140 {n : Nat} {a b c d : Int32} (hn : n ≤ 20) (hs : I 161 66 = nI n) : zr X 140 0 [.ref 160, .int a, .int b, .int c, .int d, .null] [] (zk I) = some (none, zk (zlay I n a b c d)) := by
  rw [k140_0, hs, m139 hn, zcb_some, zn_nil, k140_15]
  have m0 := fun (J : Nat → Nat → Int32) (x : Int32) => m118 (X := X) (I := J) (v := x) (w := 0) hn (by decide)
  have m1 := fun (J : Nat → Nat → Int32) (x : Int32) => m118 (X := X) (I := J) (v := x) (w := 1) hn (by decide)
  have m2 := fun (J : Nat → Nat → Int32) (x : Int32) => m118 (X := X) (I := J) (v := x) (w := 2) hn (by decide)
  have m3 := fun (J : Nat → Nat → Int32) (x : Int32) => m118 (X := X) (I := J) (v := x) (w := 3) hn (by decide)
  rw [show nI 0 = (0 : Int32) by decide] at m0
  rw [show nI 1 = (1 : Int32) by decide] at m1
  rw [show nI 2 = (2 : Int32) by decide] at m2
  rw [show nI 3 = (3 : Int32) by decide] at m3
  rw [m0, zcb_some, zn_nil, k140_23, m1, zcb_some, zn_nil, k140_31, m2, zcb_some, zn_nil, k140_39, m3, zcb_some, zn_nil, k140_48]
  rfl
/-- canAccept -/
def sCan (V : Nat → Nat → Int32) (n : Nat) (l : Int32) (m : Nat) : Bool := decide (V 5 m = 0) && (decide (sCnt V n m 1 = 0) && decide (¬ 60 < sGs V n l + sG V m))
theorem m144 {n m : Nat} (hn : n ≤ 20) (hs : I 161 66 = nI n) (hm : m ≤ 20) : zr X 144 0 [.ref 160, .int (nI m)] [] (zk I) = some (some (.int (zb (sCan (vM I) n (I 161 0) m))), zk I) := by
  rw [k144_0, m117_5 hm, zcb_some, zn_one, k144_6]
  unfold sCan
  by_cases a : vM I 5 m = 0
  · rw [if_neg (fun z => z a), k144_9, m126 hn hs hm, zcb_some, zn_one, k144_15, decide_eq_true a]
    by_cases b : sCnt (vM I) n m 1 = 0
    · rw [if_neg (fun z => z b), k144_18, m128 hn hs, zcb_some, zn_one, k144_22, m127 hm, zcb_some, zn_one, k144_27, decide_eq_true b]
      by_cases c : (60 : Int32) < sGs (vM I) n (I 161 0) + sG (vM I) m
      · rw [if_pos (by first | exact c | (rw [Int32.add_comm]; exact c)), k144_37, decide_eq_false (fun z => z c)]
        rfl
      · rw [if_neg (by first | exact c | (rw [Int32.add_comm]; exact c)), k144_33, decide_eq_true c]
        rfl
    · rw [if_pos b, k144_37, decide_eq_false b]
      rfl
  · rw [if_pos a, k144_37, decide_eq_false a]
    rfl
end M4
