/-! the reference's print: letters are written one behind the other -/
def zlw (I : Nat → Nat → Int32) (l : List Int32) : Nat → Nat → Int32 := zs1 (zup I 168 (fun k => if k < l.length then l.getD k 0 else I 168 k)) 160 11 (nI l.length)
theorem zlw_ne {I : Nat → Nat → Int32} {l : List Int32} {t : Nat} (h : t ≠ 160) (h2 : t ≠ 168) : zlw I l t = I t := by
  unfold zlw
  rw [zs1_ne h, zup_ne h2]
theorem zlw_len {I : Nat → Nat → Int32} {l : List Int32} : zlw I l 160 11 = nI l.length := by
  unfold zlw
  rw [zs1_self]
  rfl
theorem zlw_160 {I : Nat → Nat → Int32} {l : List Int32} {k : Nat} (h : k ≠ 11) : zlw I l 160 k = I 160 k := by
  unfold zlw
  rw [zs1_self, upd_at, if_neg h, zup_ne (by decide)]
theorem zlw_out {I : Nat → Nat → Int32} {l : List Int32} {k : Nat} (h : k < l.length) : zlw I l 168 k = l.getD k 0 := by
  unfold zlw
  rw [zs1_ne (by decide), zup_self, if_pos h]
theorem zlw_nil {I : Nat → Nat → Int32} : zs1 I 160 11 0 = zlw I [] := by
  unfold zlw
  rw [zup_id]
  · rfl
  · funext k
    exact if_neg (Nat.not_lt_zero _)
theorem zlw_r160 {I : Nat → Nat → Int32} {l : List Int32} : zlw I l 160 = upd (I 160) 11 (nI l.length) := by
  unfold zlw
  rw [zs1_self, zup_ne (by decide)]
theorem zlw_r168 {I : Nat → Nat → Int32} {l : List Int32} : zlw I l 168 = fun k => if k < l.length then l.getD k 0 else I 168 k := by
  unfold zlw
  rw [zs1_ne (by decide), zup_self]
theorem zlw_add {I : Nat → Nat → Int32} {l : List Int32} {v : Int32} : zs1 (zs1 (zlw I l) 168 l.length v) 160 11 (nI (l.length + 1)) = zlw I (l ++ [v]) := by
  funext t
  by_cases h1 : t = 160
  · subst h1
    rw [zs1_self, zs1_ne (by decide), zlw_r160, zlw_r160, List.length_append, List.length_singleton]
    funext k
    rw [upd_at, upd_at, upd_at]
    by_cases e : k = 11
    · rw [if_pos e, if_pos e]
    · rw [if_neg e, if_neg e, if_neg e]
  · by_cases h2 : t = 168
    · subst h2
      rw [zs1_ne (by decide), zs1_self, zlw_r168, zlw_r168, List.length_append, List.length_singleton]
      funext k
      rw [upd_at]
      by_cases e : k = l.length
      · rw [if_pos e, if_pos (by omega), e]
        simp
      · rw [if_neg e]
        by_cases e2 : k < l.length
        · rw [if_pos e2, if_pos (by omega)]
          simp [List.getD_eq_getElem?_getD, List.getElem?_append_left e2]
        · rw [if_neg e2, if_neg (by omega)]
    · rw [zs1_ne h1, zs1_ne h2, zlw_ne h1 h2, zlw_ne h1 h2]
theorem vM_zlw {I : Nat → Nat → Int32} {l : List Int32} : vM (zlw I l) = vM I := by
  funext w i
  unfold vM
  rw [zlw_ne (by decide) (by decide)]
/-- the letters of a mark -/
def sLt (I : Nat → Nat → Int32) (i : Nat) : List Int32 := (List.range (zx (vM I 4 i))).map fun k => vM I (6 + k) i
/-- is it written at a gap -/
def pWr (V : Nat → Nat → Int32) (U : Nat → Int32) (gap kind : Int32) (i : Nat) : Bool := !(U i == 0) && (V 1 i == kind && V 2 i == gap)
def sWr (V : Nat → Nat → Int32) (Lt : Nat → List Int32) (U : Nat → Int32) (gap kind : Int32) (n : Nat) (l : List Int32) : List Int32 := zfo (fun i l => if pWr V U gap kind i = true then l ++ Lt i else l) 0 n l
/-- at one gap -/
def sGp (T : Nat → Int32) (V : Nat → Nat → Int32) (Lt : Nat → List Int32) (U : Nat → Int32) (n t g : Nat) (l : List Int32) : List Int32 :=
  if (decide (g < t) && !(sLo V U n (nI g))) = true then sWr V Lt U (nI g) 2 n (sWr V Lt U (nI g) 1 n l) ++ [T g] else sWr V Lt U (nI g) 2 n (sWr V Lt U (nI g) 1 n l)
/-- the text with some marks carried out -/
def sPr (T : Nat → Int32) (V : Nat → Nat → Int32) (Lt : Nat → List Int32) (U : Nat → Int32) (n t : Nat) : List Int32 := zfo (sGp T V Lt U n t) 0 (t + 1) []
theorem zfo_grow {f : Nat → List Int32 → List Int32} (h : ∀ i l, l.length ≤ (f i l).length) : ∀ (k i : Nat) (l : List Int32), l.length ≤ (zfo f i k l).length
  | 0, _, _ => Nat.le_refl _
  | k + 1, i, l => Nat.le_trans (h i l) (zfo_grow h k (i + 1) (f i l))
theorem sWr_grow {V : Nat → Nat → Int32} {Lt : Nat → List Int32} {U : Nat → Int32} {gap kind : Int32} {n : Nat} {l : List Int32} : l.length ≤ (sWr V Lt U gap kind n l).length := by
  refine zfo_grow (fun i l => ?_) n 0 l
  split
  · rw [List.length_append]; omega
  · exact Nat.le_refl _
theorem sGp_grow {T : Nat → Int32} {V : Nat → Nat → Int32} {Lt : Nat → List Int32} {U : Nat → Int32} {n t g : Nat} {l : List Int32} : (sWr V Lt U (nI g) 2 n (sWr V Lt U (nI g) 1 n l)).length ≤ (sGp T V Lt U n t g l).length := by
  unfold sGp
  split
  · rw [List.length_append]; omega
  · exact Nat.le_refl _
section M3
variable {X : Nat × (Nat → Int32)} {I : Nat → Nat → Int32}
theorem m129 {l : List Int32} {v : Int32} (h : l.length < 180) : zr X 129 0 [.ref 160, .int v] [] (zk (zlw I l)) = some (none, zk (zlw I (l ++ [v]))) := by
  have e := zlw_len (I := I) (l := l)
  rw [k129_0 (by rw [e]; exact zin_nI h (by decide)), e, zx_nI (by omega), ← nI_succ, zlw_add]
/-- the inner loop of writesMarks, at a mark that is written -/
theorem m130in {n i : Nat} {gap kind : Int32} {pu : Nat} (hi : i < 20) (hp : vM I 4 i = nI pu) (hpu : pu ≤ 6) (hw : pWr (vM I) (I 167) gap kind i = true) : ∀ (k j : Nat) (l : List Int32), j + k = pu → l.length + k ≤ 180 →
    zr X 130 16 [.ref 160, .int gap, .int kind, .int (nI i), .int (nI j)] [] (zk (zlw I l)) = zr X 130 76 [.ref 160, .int gap, .int kind, .int (nI i), .int (nI pu)] [] (zk (zlw I (l ++ (List.range' j k).map fun q => vM I (6 + q) i)))
  | 0, j, l, h, hl => by
    rw [k130_16, m117_4 (by omega), zcb_some, zn_one, k130_24, vM_zlw, hp, if_pos (nI_le (by omega) (by omega)), show j = pu by omega]
    simp
  | k + 1, j, l, h, hl => by
    unfold pWr at hw
    simp only [Bool.and_eq_true, Bool.not_eq_true', beq_iff_eq] at hw
    obtain ⟨h1, h2, h3⟩ := hw
    have h1 : ¬ I 167 i = 0 := by simpa using h1
    have e6 : (6 : Int32) + nI j = nI (6 + j) := by rw [zI_add]; rfl
    rw [k130_16, m117_4 (by omega), zcb_some, zn_one, k130_24, vM_zlw, hp, if_neg (nI_ge (show j < pu by omega) (by omega)), k130_27 (zin_nI hi (by decide)), zx_nI (by omega), zlw_ne (by decide) (by decide), if_neg h1, k130_36, m117_1 (by omega), zcb_some, zn_one, k130_42, vM_zlw, if_neg (fun z => z h2),
      k130_46, m117_2 (by omega), zcb_some, zn_one, k130_52, vM_zlw, if_neg (fun z => z h3), k130_56, e6, m117 (by omega) (by omega), zcb_some, zn_one, k130_67, vM_zlw, m129 (by omega), zcb_some, zn_nil, k130_70, ← nI_succ]
    rw [m130in (n := n) hi hp hpu (by unfold pWr; simp [h1, h2, h3]) k (j + 1) _ (by omega) (by rw [List.length_append, List.length_singleton]; omega)]
    rw [List.append_assoc]
    rfl
theorem m130out {i : Nat} {gap kind : Int32} {pu : Nat} {l : List Int32} (hi : i < 20) (hp : vM I 4 i = nI pu) (hpu : pu ≤ 6) (hw : pWr (vM I) (I 167) gap kind i = false) : zr X 130 16 [.ref 160, .int gap, .int kind, .int (nI i), .int 0] [] (zk (zlw I l)) = zr X 130 76 [.ref 160, .int gap, .int kind, .int (nI i), .int 0] [] (zk (zlw I l)) := by
  rw [k130_16, m117_4 (by omega), zcb_some, zn_one, k130_24, vM_zlw]
  by_cases a0 : vM I 4 i ≤ 0
  · rw [if_pos a0]
  · rw [if_neg a0, k130_27 (zin_nI hi (by decide)), zx_nI (by omega), zlw_ne (by decide) (by decide)]
    by_cases a1 : I 167 i = 0
    · rw [if_pos a1]
    · rw [if_neg a1, k130_36, m117_1 (by omega), zcb_some, zn_one, k130_42, vM_zlw]
      by_cases a2 : vM I 1 i = kind
      · rw [if_neg (fun z => z a2), k130_46, m117_2 (by omega), zcb_some, zn_one, k130_52, vM_zlw]
        by_cases a3 : vM I 2 i = gap
        · exfalso
          unfold pWr at hw
          simp [a1, a2, a3] at hw
        · rw [if_pos a3]
      · rw [if_pos a2]
theorem m130 {n : Nat} {gap kind : Int32} {l : List Int32} (hn : n ≤ 20) (hs : I 161 66 = nI n) (hp : ∀ i, i < n → zx (vM I 4 i) ≤ 6 ∧ ¬ vM I 4 i < 0) (hl : (sWr (vM I) (sLt I) (I 167) gap kind n l).length ≤ 180) :
    zr X 130 0 [.ref 160, .int gap, .int kind, .null, .null] [] (zk (zlw I l)) = some (none, zk (zlw I (sWr (vM I) (sLt I) (I 167) gap kind n l))) := by
  rw [k130_0]
  have h : ∀ (k i : Nat) (l : List Int32) (w : Value), i + k = n → (zfo (fun i l => if pWr (vM I) (I 167) gap kind i = true then l ++ sLt I i else l) i k l).length ≤ 180 →
      zr X 130 2 [.ref 160, .int gap, .int kind, .int (nI i), w] [] (zk (zlw I l)) = some (none, zk (zlw I (zfo (fun i l => if pWr (vM I) (I 167) gap kind i = true then l ++ sLt I i else l) i k l))) := by
    intro k
    induction k with
    | zero =>
      intro i l w h hl
      rw [k130_2, zlw_ne (by decide) (by decide), hs, if_pos (nI_le (by omega) (by omega)), k130_82]
      rfl
    | succ k ih =>
      intro i l w h hl
      obtain ⟨hp1, hp2⟩ := hp i (by omega)
      have hpe : vM I 4 i = nI (zx (vM I 4 i)) := (nI_zx hp2).symm
      rw [k130_2, zlw_ne (by decide) (by decide), hs, if_neg (nI_ge (show i < n by omega) (by omega)), k130_13]
      have hgr : ∀ i l, l.length ≤ ((fun i l => if pWr (vM I) (I 167) gap kind i = true then l ++ sLt I i else l) i l : List Int32).length := by
        intro i l
        dsimp only
        split
        · rw [List.length_append]; omega
        · exact Nat.le_refl _
      have hl2 : (zfo (fun i l => if pWr (vM I) (I 167) gap kind i = true then l ++ sLt I i else l) (i + 1) k (if pWr (vM I) (I 167) gap kind i = true then l ++ sLt I i else l)).length ≤ 180 := hl
      by_cases a : pWr (vM I) (I 167) gap kind i = true
      · rw [if_pos a] at hl2
        have h9 : (l ++ sLt I i).length ≤ 180 := Nat.le_trans (zfo_grow hgr k (i + 1) _) hl2
        have h8 : (sLt I i).length = zx (vM I 4 i) := by unfold sLt; simp
        have h7 := m130in (X := X) (n := n) (show i < 20 by omega) hpe hp1 a (zx (vM I 4 i)) 0 l (by omega) (by rw [List.length_append, h8] at h9; exact h9)
        have h0 : nI 0 = 0 := nI_0
        rw [h0] at h7
        rw [h7, show (List.range' 0 (zx (vM I 4 i))).map (fun q => vM I (6 + q) i) = sLt I i from by unfold sLt; rw [List.range_eq_range'], k130_76, ← nI_succ, ih (i + 1) _ _ (by omega) hl2]
        show _ = some (none, zk (zlw I (zfo _ (i + 1) k (if pWr (vM I) (I 167) gap kind i = true then l ++ sLt I i else l))))
        rw [if_pos a]
      · simp only [Bool.not_eq_true] at a
        rw [m130out (show i < 20 by omega) hpe hp1 a, k130_76, ← nI_succ]
        rw [if_neg (by rw [a]; decide)] at hl2
        rw [ih (i + 1) _ _ (by omega) hl2]
        show _ = some (none, zk (zlw I (zfo _ (i + 1) k (if pWr (vM I) (I 167) gap kind i = true then l ++ sLt I i else l))))
        rw [if_neg (by rw [a]; decide)]
  have h1 := h n 0 l .null (by omega) hl
  have h0 : nI 0 = 0 := nI_0
  rw [h0] at h1
  exact h1
/-- carriesOut -/
theorem m132 {n t : Nat} (hn : n ≤ 20) (ht : t ≤ 60) (hs : I 161 66 = nI n) (hs2 : I 161 0 = nI t) (hp : ∀ i, i < n → zx (vM I 4 i) ≤ 6 ∧ ¬ vM I 4 i < 0) (hl : (sPr (fun g => I 161 (1 + g)) (vM I) (sLt I) (I 167) n t).length ≤ 180) :
    zr X 132 0 [.ref 160, .null] [] (zk I) = some (none, zk (zlw I (sPr (fun g => I 161 (1 + g)) (vM I) (sLt I) (I 167) n t))) := by
  rw [k132_0, zlw_nil]
  have hlt : ∀ l, sLt (zlw I l) = sLt I := by
    intro l
    funext i
    unfold sLt
    rw [vM_zlw]
  have h := zloopP (F := fun g (l : List Int32) => zr X 132 7 [.ref 160, .int (nI g)] [] (zk (zlw I l))) (n := t + 1) (R := fun l => some (none, zk (zlw I l))) (f := sGp (fun g => I 161 (1 + g)) (vM I) (sLt I) (I 167) n t) (fun g l => (zfo (sGp (fun g => I 161 (1 + g)) (vM I) (sLt I) (I 167) n t) g (t + 1 - g) l).length ≤ 180) ?_ ?_ (t + 1) 0 [] (by omega) hl
  · have h0 : nI 0 = 0 := nI_0
    rw [h0] at h
    exact h
  · intro g l hg hP
    have e1 : t + 1 - g = (t + 1 - (g + 1)) + 1 := by omega
    rw [e1] at hP
    have hP2 : (zfo (sGp (fun g => I 161 (1 + g)) (vM I) (sLt I) (I 167) n t) (g + 1) (t + 1 - (g + 1)) (sGp (fun g => I 161 (1 + g)) (vM I) (sLt I) (I 167) n t g l)).length ≤ 180 := hP
    refine ⟨?_, hP2⟩
    have hb : (sGp (fun g => I 161 (1 + g)) (vM I) (sLt I) (I 167) n t g l).length ≤ 180 := Nat.le_trans (zfo_grow (fun i l => Nat.le_trans (Nat.le_trans sWr_grow sWr_grow) sGp_grow) _ _ _) hP2
    have hb2 : (sWr (vM I) (sLt I) (I 167) (nI g) 2 n (sWr (vM I) (sLt I) (I 167) (nI g) 1 n l)).length ≤ 180 := Nat.le_trans sGp_grow hb
    have hb1 : (sWr (vM I) (sLt I) (I 167) (nI g) 1 n l).length ≤ 180 := Nat.le_trans sWr_grow hb2
    have nz : ∀ z, zlw I z 161 = I 161 := fun z => zlw_ne (by decide) (by decide)
    rw [k132_7, nz, hs2, if_neg (nI_nlt (by omega) (by omega)), k132_17, m130 hn hs hp hb1, zcb_some, zn_nil, k132_23, m130 hn hs hp hb2, zcb_some, zn_nil, k132_29, nz, hs2]
    by_cases a1 : g < t
    · rw [if_neg (nI_ge a1 (by omega)), k132_39]
      have h131 := m131 (X := X) (I := zlw I (sWr (vM I) (sLt I) (I 167) (nI g) 2 n (sWr (vM I) (sLt I) (I 167) (nI g) 1 n l))) (g := nI g) hn (by rw [nz]; exact hs)
      rw [vM_zlw, zlw_ne (t := 167) (by decide) (by decide)] at h131
      rw [h131, zcb_some, zn_one, k132_44]
      by_cases a2 : sLo (vM I) (I 167) n (nI g) = true
      · rw [a2, zb_t, if_pos (by decide), k132_59, ← nI_succ]
        have e : sGp (fun g => I 161 (1 + g)) (vM I) (sLt I) (I 167) n t g l = sWr (vM I) (sLt I) (I 167) (nI g) 2 n (sWr (vM I) (sLt I) (I 167) (nI g) 1 n l) := by
          unfold sGp
          rw [a2]
          simp
        rw [e]
      · simp only [Bool.not_eq_true] at a2
        have e : sGp (fun g => I 161 (1 + g)) (vM I) (sLt I) (I 167) n t g l = sWr (vM I) (sLt I) (I 167) (nI g) 2 n (sWr (vM I) (sLt I) (I 167) (nI g) 1 n l) ++ [I 161 (1 + g)] := by
          unfold sGp
          rw [a2, decide_eq_true a1]
          rfl
        rw [e, List.length_append, List.length_singleton] at hb
        have e2 : (1 : Int32) + nI g = nI (1 + g) := by rw [zI_add]; rfl
        rw [a2, zb_f, if_neg (by decide), k132_47 (by rw [e2]; exact zin_nI (by omega) (by decide)), e2, zx_nI (by omega), nz, m129 (by omega), zcb_some, zn_nil, k132_59, ← nI_succ, e]
    · rw [if_pos (nI_le (by omega) (by omega)), k132_59, ← nI_succ]
      have e : sGp (fun g => I 161 (1 + g)) (vM I) (sLt I) (I 167) n t g l = sWr (vM I) (sLt I) (I 167) (nI g) 2 n (sWr (vM I) (sLt I) (I 167) (nI g) 1 n l) := by
        unfold sGp
        rw [decide_eq_false a1]
        simp
      rw [e]
  · intro l hP
    rw [k132_7, zlw_ne (by decide) (by decide), hs2, if_pos (nI_lt (Nat.lt_succ_self t) (by omega)), k132_65]
end M3
