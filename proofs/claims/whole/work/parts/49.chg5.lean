/-! begin -/
def pLt (x : Int32) : Bool := decide (¬ x < 97) && decide (¬ 122 < x)
section B5
variable {X : Nat × (Nat → Int32)} {I : Nat → Nat → Int32}
/-- a change of what is now and of the pad -/
theorem inv_chgp {c : Nat} {J1 R J K : Nat → Nat → Int32} {S' T : Nat → Int32} (h : Inv c I) (hr : rC I R) (hR0 : ∀ t, t ≠ 17 → t ≤ 19 ∨ 109 ≤ t → t < 144 ∨ 160 ≤ t → R t = I t) (h1 : ∀ t, 17 ≤ t → t < 142 ∨ 160 ≤ t → J1 t = R t) {M : Nat → Nat → Int32} (hM4 : M 160 4 = I 160 4) (hM163 : M 163 = I 163)
    (hM : rM M K T) (ht : hR I 2 T) (htw : wS c T) (hJ : ∀ t, t < 160 → J t = J1 t) (hJ164 : J 164 = I 164) (hJ165 : J 165 = I 165) (hJ163 : J 163 = K 163) (hJ4 : J 160 4 = K 160 4) (hS : J 161 = S') (hn : hR J1 2 S') (hw : wS (c + 1) S') (hp : iP J) : Inv (c + 1) J := by
  have hI := h
  have hhi : ∀ t, 109 ≤ t → t < 142 ∨ 160 ≤ t → J1 t = I t := fun t t1 t2 => (h1 t (by omega) t2).trans (hR0 t (by omega) (Or.inr t1) (by omega))
  have hM1 : rM J1 J T := by
    intro u hu hu4
    obtain ⟨a1, a2⟩ := hM u hu (hM4.trans ((congrFun (hhi 160 (by decide) (Or.inr (by decide))) 4).symm.trans hu4))
    refine ⟨hJ4.trans a1, fun j hj k hk => ?_⟩
    rw [hJ163, hhi 163 (by decide) (Or.inr (by decide)), ← hM163]
    exact a2 j hj k hk
  refine inv_rp (I1 := J1) (T := T) hI ⟨rC_hi hr (fun t t1 t2 => h1 t t1 (Or.inl (by omega))), hhi _ (by decide) (Or.inl (by decide)), fun t t1 t2 => hhi t (by omega) (Or.inl (by omega)), fun t t1 => hhi t (by omega) (Or.inr t1)⟩ ⟨hM1, hJ, hJ164.trans (hhi _ (by decide) (Or.inr (by decide))).symm, hJ165.trans (hhi _ (by decide) (Or.inr (by decide))).symm⟩ ht htw ?_ ?_ hp
  · rw [hS]
    exact hR_cells (fun t t1 t2 => hJ t (by omega)) hn
  · rw [hS]
    exact hw
theorem c36y {p k : Nat} (hp : p ≤ 60) (h1 : I 142 1 = nI p) (hk : k < p) : zr X 36 0 [.ref 142, .int (nI k)] [] (zk I) = some (some (.int (I 143 k)), zk I) := by
  rw [k36_0, if_neg (nI_pos (by omega)), k36_4, h1, if_neg (nI_ge hk (by omega)), k36_12 (zin_nI (by omega) (by decide)), zx_nI (by omega)]
theorem c36n {p k : Nat} (hp : p ≤ 60) (h1 : I 142 1 = nI p) (hk : p ≤ k) (hk2 : k < 1000) : zr X 36 0 [.ref 142, .int (nI k)] [] (zk I) = some (some (.int (-6)), zk I) := by
  rw [k36_0, if_neg (nI_pos (by omega)), k36_4, h1, if_pos (nI_le hk (by omega)), k36_21]
theorem c37y {p k : Nat} (hp : p ≤ 60) (h1 : I 142 1 = nI p) (hk : k < p) : zr X 37 0 [.ref 142, .int (nI k)] [] (zk I) = some (some (.int (zb (pLt (I 143 k)))), zk I) := by
  rw [k37_0, c36y hp h1 hk, zcb_some, zn_one, k37_5]
  unfold pLt
  by_cases a : I 143 k < 97
  · rw [if_pos a, k37_24, decide_eq_false (fun z => z a)]
    rfl
  · rw [if_neg a, k37_10, c36y hp h1 hk, zcb_some, zn_one, k37_15, decide_eq_true a]
    by_cases b : 122 < I 143 k
    · rw [if_pos b, k37_24, decide_eq_false (fun z => z b)]
      rfl
    · rw [if_neg b, k37_20, decide_eq_true b]
      rfl
theorem c37n {p k : Nat} (hp : p ≤ 60) (h1 : I 142 1 = nI p) (hk : p ≤ k) (hk2 : k < 1000) : zr X 37 0 [.ref 142, .int (nI k)] [] (zk I) = some (some (.int 0), zk I) := by
  rw [k37_0, c36n hp h1 hk hk2, zcb_some, zn_one, k37_5, if_pos (by decide), k37_24]
def pOl (f : Nat → Int32) (p : Nat) : Bool := zan (fun i => !pLt (f i)) 0 p
theorem c38 {p : Nat} (hp : p ≤ 60) (h1 : I 142 1 = nI p) : zr X 38 0 [.ref 142, .null] [] (zk I) = some (some (.int (zb (!pOl (I 143) p))), zk I) := by
  rw [k38_0]
  have h := zlook (F := fun i => zr X 38 2 [.ref 142, .int (nI i)] [] (zk I)) (n := p) (T := some (some (.int 0), zk I)) (E := some (some (.int 1), zk I)) (p := fun i => !pLt (I 143 i)) ?_ ?_ p 0 (by omega)
  · have h0 : nI 0 = 0 := nI_0
    rw [← h0, h]
    unfold pOl
    cases zan (fun i => !pLt (I 143 i)) 0 p <;> rfl
  · intro i hi
    rw [k38_2, h1, if_neg (nI_ge hi (by omega)), k38_10, c37y hp h1 hi, zcb_some, zn_one, k38_15]
    cases e : pLt (I 143 i) with
    | true => rw [zb_t, if_pos (by decide), k38_20, ← nI_succ]; rfl
    | false => rw [zb_f, if_neg (by decide), k38_18]; rfl
  · rw [k38_2, h1, if_pos (nI_le (Nat.le_refl _) (by omega)), k38_26]
/-- startWith -/
theorem c52 {p : Nat} (hp : p ≤ 60) (h1 : I 142 1 = nI p) : ∃ J, zr X 52 0 [.ref 2, .ref 142, .null] [] (zk I) = some (none, zk J) ∧ J 3 1 = nI p ∧ (∀ k, k < p → J 4 k = I 143 k - 97) ∧ J 5 7 = 0 ∧ J 13 2 = 0 ∧ ∀ t, t ≠ 3 → t ≠ 4 → t ≠ 5 → t ≠ 13 → J t = I t := by
  rw [k52_0, k65_0, zcb_some, zn_nil, k52_7]
  have h : ∀ k i, i + k = p → zr X 52 9 [.ref 2, .ref 142, .int (nI i)] [] (zk (zs1 (zfw I 4 0 (fun k => I 143 k - 97) i) 3 1 (nI i))) = zr X 52 38 [.ref 2, .ref 142, .int (nI p)] [] (zk (zs1 (zfw I 4 0 (fun k => I 143 k - 97) p) 3 1 (nI p))) := by
    intro k
    induction k with
    | zero =>
      intro i hi
      have e : i = p := by omega
      subst e
      rw [k52_9, zs1_ne (by decide), zfw_ne (by decide), h1, if_pos (nI_le (Nat.le_refl _) (by omega))]
    | succ k ih =>
      intro i hi
      have hi2 : i < p := by omega
      have n142 : zs1 (zfw I 4 0 (fun k => I 143 k - 97) i) 3 1 (nI i) 142 = I 142 := by rw [zs1_ne (by decide), zfw_ne (by decide)]
      have n143 : zs1 (zfw I 4 0 (fun k => I 143 k - 97) i) 3 1 (nI i) 143 = I 143 := by rw [zs1_ne (by decide), zfw_ne (by decide)]
      have n31 : zs1 (zfw I 4 0 (fun k => I 143 k - 97) i) 3 1 (nI i) 3 1 = nI i := by rw [zs1_self, upd_at, if_pos rfl]
      have e := zfw_succ (I := I) (d := 4) (off := 0) (k := i) (g := fun k => I 143 k - 97)
      rw [Nat.zero_add] at e
      have hst : zs1 (zs1 (zs1 (zfw I 4 0 (fun k => I 143 k - 97) i) 3 1 (nI i)) 4 i (I 143 i - 97)) 3 1 (nI (i + 1)) = zs1 (zfw I 4 0 (fun k => I 143 k - 97) (i + 1)) 3 1 (nI (i + 1)) := by
        rw [← e]
        funext t
        by_cases t3 : t = 3
        · subst t3
          rw [zs1_self, zs1_self, zs1_ne (by decide), zs1_self, zs1_ne (by decide)]
          funext k
          rw [upd_at, upd_at, upd_at]
          by_cases k1 : k = 1
          · rw [if_pos k1, if_pos k1]
          · rw [if_neg k1, if_neg k1, if_neg k1]
        · rw [zs1_ne t3, zs1_ne t3]
          by_cases t4 : t = 4
          · subst t4
            rw [zs1_self, zs1_self, zs1_ne (by decide)]
          · rw [zs1_ne t4, zs1_ne t4, zs1_ne t3]
      rw [k52_9, n142, h1, if_neg (nI_ge hi2 (by omega)), k52_17, c36y hp (by rw [n142]; exact h1) hi2, zcb_some, zn_one, k52_26, k66_0, n31, if_neg (show ¬ (60 : Int32) ≤ nI i from nI_ge (b := 60) (by omega) (by decide)), k66_9 (by rw [n31]; exact zin_nI (by omega) (by decide)), n31, n143, zx_nI (by omega), zcb_some, zn_nil, k52_32, ← nI_succ, hst, ih (i + 1) (by omega)]
  have h2 := h p 0 (by omega)
  rw [zfw_0, nI_0] at h2
  rw [h2, k52_38, k4b_0, zcb_some, zn_nil, k52_45, k70_0, zcb_some, zn_nil, k52_52]
  refine ⟨_, rfl, ?_, fun k hk => ?_, ?_, ?_, fun t t1 t2 t3 t4 => ?_⟩
  · rw [zs1_ne (by decide), zs1_ne (by decide), zs1_self, upd_at, if_pos rfl]
  · rw [zs1_ne (by decide), zs1_ne (by decide), zs1_ne (by decide), zfw_eq k hk]
  · rw [zs1_ne (by decide), zs1_self, upd_at, if_pos rfl]
  · rw [zs1_self, upd_at, if_pos rfl]
  · rw [zs1_ne t4, zs1_ne t3, zs1_ne t1, zfw_ne t2]
theorem m136a {p : Nat} (hp : p ≤ 60) (h1 : I 160 8 = nI p) : zr X 136 7 [.ref 160, .int 0] [] (zk I) = if pOl (I 166) p = true then some (some (.int (-3)), zk I) else zr X 136 40 [.ref 160, .int (nI p)] [] (zk I) := by
  have h := zlook (F := fun i => zr X 136 7 [.ref 160, .int (nI i)] [] (zk I)) (n := p) (T := some (some (.int (-3)), zk I)) (E := zr X 136 40 [.ref 160, .int (nI p)] [] (zk I)) (p := fun i => !pLt (I 166 i)) ?_ ?_ p 0 (by omega)
  · have h0 : nI 0 = 0 := nI_0
    rw [← h0, h]
    rfl
  · intro i hi
    rw [k136_7, h1, if_neg (nI_ge hi (by omega)), k136_15 (zin_nI (by omega) (by decide)), zx_nI (by omega), m116, zcb_some, zn_one, k136_28]
    show _ = if (!pLt (I 166 i)) = true then _ else _
    rw [show (decide (¬ I 166 i < 97) && decide (¬ 122 < I 166 i)) = pLt (I 166 i) from rfl]
    cases e : pLt (I 166 i) with
    | true => rw [zb_t, if_pos (by decide), k136_34, ← nI_succ]; rfl
    | false => rw [zb_f, if_neg (by decide), k136_31]; rfl
  · rw [k136_7, h1, if_pos (nI_le (Nat.le_refl _) (by omega))]
def gBeg (S : Nat → Int32) (k : Nat) : Int32 := if 61 ≤ k ∧ k ≤ 65 then S k else 0
theorem m136b : zr X 136 46 [.ref 160, .int 0] [] (zk I) = zr X 136 86 [.ref 160, .int (nI 675)] [] (zk (zfw I 161 0 (gBeg (I 161)) 675)) := by
  have h : ∀ k i, i + k = 675 → zr X 136 46 [.ref 160, .int (nI i)] [] (zk (zfw I 161 0 (gBeg (I 161)) i)) = zr X 136 86 [.ref 160, .int (nI 675)] [] (zk (zfw I 161 0 (gBeg (I 161)) 675)) := by
    intro k
    induction k with
    | zero =>
      intro i hi
      have e : i = 675 := by omega
      subst e
      rw [k136_46, if_pos (by decide)]
    | succ k ih =>
      intro i hi
      have e := zfw_succ (I := I) (d := 161) (off := 0) (k := i) (g := gBeg (I 161))
      rw [Nat.zero_add] at e
      have hi0 : zin (nI i) 675 = true := zin_nI (by omega) (by decide)
      have hb := zb_in (v := nI i) (a := 61) (b := 65) (by decide) (by decide) i (by omega) rfl
      have hb' : zb (decide (¬ nI i < 61) && decide (¬ 65 < nI i)) = zb (decide (61 ≤ i ∧ i ≤ 65)) := hb
      rw [k136_46, if_neg (show ¬ (675 : Int32) ≤ nI i from nI_ge (b := 675) (by omega) (by decide)), k136_53, m116, hb', zcb_some, zn_one, k136_66]
      by_cases a : 61 ≤ i ∧ i ≤ 65
      · rw [decide_eq_true a, zb_t, if_neg (by decide), k136_69 hi0 hi0, zx_nI (by omega), zfw_self, if_neg (by omega), ← nI_succ, ← ih (i + 1) (by omega), ← e]
        rw [show gBeg (I 161) i = I 161 i from if_pos a]
      · rw [decide_eq_false a, zb_f, if_pos rfl, k136_78 hi0, zx_nI (by omega), ← nI_succ, ← ih (i + 1) (by omega), ← e]
        rw [show gBeg (I 161) i = 0 from if_neg a]
  have h1 := h 675 0 (by omega)
  rw [zfw_0, nI_0] at h1
  exact h1
theorem m136c {p : Nat} (hp : p ≤ 60) (h1 : I 160 8 = nI p) : zr X 136 88 [.ref 160, .int 0] [] (zk I) = some (some (.int (nI p)), zk (zs1 (zs1 (zfw I 161 1 (fun k => I 166 k - 97) p) 161 0 (nI p)) 160 8 0)) := by
  have h : ∀ k i, i + k = p → zr X 136 88 [.ref 160, .int (nI i)] [] (zk (zfw I 161 1 (fun k => I 166 k - 97) i)) = zr X 136 119 [.ref 160, .int (nI p)] [] (zk (zfw I 161 1 (fun k => I 166 k - 97) p)) := by
    intro k
    induction k with
    | zero =>
      intro i hi
      have e : i = p := by omega
      subst e
      rw [k136_88, zfw_ne (by decide), h1, if_pos (nI_le (Nat.le_refl _) (by omega))]
    | succ k ih =>
      intro i hi
      have e := zfw_succ (I := I) (d := 161) (off := 1) (k := i) (g := fun k => I 166 k - 97)
      have e1 : (1 : Int32) + nI i = nI (1 + i) := by rw [zI_add]; rfl
      rw [k136_88, zfw_ne (by decide), h1, if_neg (nI_ge (show i < p by omega) (by omega)), k136_96 (zin_nI (by omega) (by decide)) (by rw [e1]; exact zin_nI (by omega) (by decide)), e1, zx_nI (by omega), zx_nI (by omega), zfw_ne (t := 166) (by decide), e, ← nI_succ, ih (i + 1) (by omega)]
  have h2 := h p 0 (by omega)
  rw [zfw_0, nI_0] at h2
  rw [h2, k136_119, zfw_ne (by decide), h1, zs1_self, upd_at, if_pos rfl]
/-- begin -/
theorem p_begin {c : Nat} (hI : Inv c I) : Call X c I 88 [.ref 1] 136 [.ref 160, .null] := by
  have hend := inv_q hI cQ_rf (mQ_th (v := 0))
  obtain ⟨p, hp, hp1, hp2, hp3⟩ := hI.2.2.2
  have hol : pOl (I 166) p = pOl (I 143) p := by
    unfold pOl
    exact zan_map (fun i hi => by rw [hp3 i hi])
  by_cases a : pOl (I 143) p = true
  · refine ⟨-3, I, zs1 I 160 0 0, ?_, ?_, hend⟩
    · rw [k88_0, c38 hp hp1, zcb_some, zn_one, k88_7, a, if_neg (by decide), k88_10]
    · rw [k136_0, m136a hp (by rw [th_160 (by decide)]; exact hp2), zs1_ne (t := 160) (by decide), hol, if_pos a]
  · have a' := a
    rw [Bool.not_eq_true] at a
    obtain ⟨R, r1, r2, r3⟩ := c1x (X := X) hI.2.1
    have r142 : R 142 1 = nI p := by rw [r2 142 (by decide) (by decide)]; exact hp1
    obtain ⟨Q, q1, q2, q3, q4, q5, q6⟩ := c52 (X := X) (I := R) hp r142
    have hJ : ∀ t, 109 ≤ t → t ≠ 142 → zs1 Q 142 1 0 t = I t := fun t t1 t2 => (zs1_ne t2).trans ((q6 t (by omega) (by omega) (by omega) (by omega)).trans (r2 t (by omega) (by omega)))
    obtain ⟨K, k1, k2, k3, k4⟩ := m121y (X := X) hI.2.1 (I1 := zs1 (zs1 Q 142 1 0) 160 0 0) (by rw [th_160 (by decide), hJ _ (by decide) (by decide)])
    have k161 : K 161 = I 161 := (k2 161 (by decide) (by decide)).trans ((zs1_ne (by decide)).trans (hJ _ (by decide) (by decide)))
    have k166 : K 166 = I 166 := (k2 166 (by decide) (by decide)).trans ((zs1_ne (by decide)).trans (hJ _ (by decide) (by decide)))
    have k8 : K 160 8 = nI p := by rw [k3 8 (by decide), th_160 (by decide), hJ _ (by decide) (by decide)]; exact hp2
    have kc := m136c (X := X) (I := zfw K 161 0 (gBeg (K 161)) 675) hp (by rw [zfw_ne (by decide)]; exact k8)
    refine ⟨nI p, zs1 Q 142 1 0, zs1 (zs1 (zfw (zfw K 161 0 (gBeg (K 161)) 675) 161 1 (fun k => zfw K 161 0 (gBeg (K 161)) 675 166 k - 97) p) 161 0 (nI p)) 160 8 0, ?_, ?_, ?_⟩
    · rw [k88_0, c38 hp hp1, zcb_some, zn_one, k88_7, a, if_pos (by decide), k88_13, r1, zcb_some, zn_nil, k88_24, q1, zcb_some, zn_nil, k88_35, k35_0, zcb_some, zn_nil, k88_42, zs1_ne (by decide), q2]
    · rw [k136_0, m136a hp (by rw [th_160 (by decide), hJ _ (by decide) (by decide)]; exact hp2), zs1_ne (t := 160) (j := 166) (by decide), hJ 166 (by decide) (by decide), hol, if_neg a', k136_40, k1, zcb_some, zn_nil, k136_44, m136b, k136_86, kc]
    · have hS : ∀ k, k < 675 → zs1 (zs1 (zfw (zfw K 161 0 (gBeg (K 161)) 675) 161 1 (fun k => zfw K 161 0 (gBeg (K 161)) 675 166 k - 97) p) 161 0 (nI p)) 160 8 0 161 k = if k = 0 then nI p else if 1 ≤ k ∧ k < 1 + p then I 166 (k - 1) - 97 else gBeg (I 161) k := by
        intro k hk
        rw [zs1_ne (by decide), zs1_self, upd_at, zfw_self, zfw_ne (t := 166) (by decide), k166, zfw_eq k hk, k161]
      have hlo : ∀ t, t ≠ 160 → t ≠ 161 → zs1 (zs1 (zfw (zfw K 161 0 (gBeg (K 161)) 675) 161 1 (fun k => zfw K 161 0 (gBeg (K 161)) 675 166 k - 97) p) 161 0 (nI p)) 160 8 0 t = K t := fun t t1 t2 => by rw [zs1_ne t1, zs1_ne t2, zfw_ne t2, zfw_ne t2]
      have hloJ : ∀ t, t ≠ 160 → t ≠ 161 → t ≠ 163 → zs1 (zs1 (zfw (zfw K 161 0 (gBeg (K 161)) 675) 161 1 (fun k => zfw K 161 0 (gBeg (K 161)) 675 166 k - 97) p) 161 0 (nI p)) 160 8 0 t = zs1 Q 142 1 0 t := fun t t1 t2 t3 => (hlo t t1 t2).trans ((k2 t t1 t3).trans (zs1_ne t1))
      have h160 : ∀ k, k ≠ 8 → zs1 (zs1 (zfw (zfw K 161 0 (gBeg (K 161)) 675) 161 1 (fun k => zfw K 161 0 (gBeg (K 161)) 675 166 k - 97) p) 161 0 (nI p)) 160 8 0 160 k = K 160 k := fun k k8 => by rw [zs1_self, upd_at, if_neg k8, zs1_ne (by decide), zfw_ne (by decide), zfw_ne (by decide)]
      have z0 : zx (0 : Int32) = 0 := rfl
      refine inv_chgp (J1 := zs1 Q 142 1 0) (R := R) (K := K) (M := zs1 (zs1 Q 142 1 0) 160 0 0) (T := I 161) (S' := zs1 (zs1 (zfw (zfw K 161 0 (gBeg (K 161)) 675) 161 1 (fun k => zfw K 161 0 (gBeg (K 161)) 675 166 k - 97) p) 161 0 (nI p)) 160 8 0 161) hI r3 (fun t a b _ => r2 t a b) (fun t t1 t2 => (zs1_ne (by omega)).trans (q6 t (by omega) (by omega) (by omega) (by omega))) (by rw [th_160 (by decide), hJ _ (by decide) (by decide)]) ((zs1_ne (by decide)).trans (hJ _ (by decide) (by decide))) ?_ hI.1.1 hI.1.2 (fun t t1 => hloJ t (by omega) (by omega) (by omega)) ((hloJ _ (by decide) (by decide) (by decide)).trans (hJ _ (by decide) (by decide))) ((hloJ _ (by decide) (by decide) (by decide)).trans (hJ _ (by decide) (by decide))) (hlo _ (by decide) (by decide)) (h160 _ (by decide)) rfl ?_ ?_ ?_
      · rw [zs1_ne (t := 160) (by decide), hJ 161 (by decide) (by decide)] at k4
        exact k4
      · have e0 := hS 0 (by decide)
        rw [if_pos rfl] at e0
        have e66 := hS 66 (by decide)
        rw [if_neg (by decide), if_neg (by omega), show gBeg (I 161) 66 = 0 from rfl] at e66
        have e307 := hS 307 (by decide)
        rw [if_neg (by decide), if_neg (by omega), show gBeg (I 161) 307 = 0 from rfl] at e307
        have e308 := hS 308 (by decide)
        rw [if_neg (by decide), if_neg (by omega), show gBeg (I 161) 308 = 0 from rfl] at e308
        refine ⟨⟨?_, fun k hk => ?_⟩, ⟨?_, fun i w hi => ?_, fun i k hi => ?_⟩, fun k hk => ?_, ?_, fun j hj => ?_⟩
        · rw [e0]
          show zs1 Q 142 1 0 3 1 = _
          rw [zs1_ne (by decide)]
          exact q2
        · rw [e0, zx_nI (by omega)] at hk
          show zs1 Q 142 1 0 4 k = _
          rw [zs1_ne (by decide), q3 k hk, r2 143 (by decide) (by decide), hp3 k hk, hS (1 + k) (by omega), if_neg (by omega), if_pos (by omega), show 1 + k - 1 = k by omega]
        · rw [e66]
          show zs1 Q 142 1 0 5 7 = _
          rw [zs1_ne (by decide)]
          exact q4
        · rw [e66] at hi
          exact absurd hi (Nat.not_lt_zero _)
        · rw [e66] at hi
          exact absurd hi (Nat.not_lt_zero _)
        · rw [hS (61 + k) (by omega), if_neg (by omega), if_neg (by omega)]
          show zs1 Q 142 1 0 16 k = _
          rw [zs1_ne (by decide), q6 16 (by decide) (by decide) (by decide) (by decide), r2 16 (by decide) (by decide), show gBeg (I 161) (61 + k) = I 161 (61 + k) from if_pos (by omega)]
          exact hI.1.1.2.2.1 k hk
        · rw [e307]
          show zs1 Q 142 1 0 13 2 = _
          rw [zs1_ne (by decide)]
          exact q5
        · rw [e308] at hj
          exact absurd hj (Nat.not_lt_zero _)
      · have e0 := hS 0 (by decide)
        rw [if_pos rfl] at e0
        have e66 := hS 66 (by decide)
        rw [if_neg (by decide), if_neg (by omega), show gBeg (I 161) 66 = 0 from rfl] at e66
        have e307 := hS 307 (by decide)
        rw [if_neg (by decide), if_neg (by omega), show gBeg (I 161) 307 = 0 from rfl] at e307
        have e308 := hS 308 (by decide)
        rw [if_neg (by decide), if_neg (by omega), show gBeg (I 161) 308 = 0 from rfl] at e308
        refine ⟨⟨p, 0, hp, by decide, e0, e66, ⟨fun i hi => absurd hi (Nat.not_lt_zero _), fun i j hi => absurd hi (Nat.not_lt_zero _), fun i j hi => absurd hi (Nat.not_lt_zero _)⟩, ?_⟩, fun k hk => ?_, 0, Nat.zero_le _, e307, e308, fun j hj => absurd hj (Nat.not_lt_zero _)⟩
        · show ¬ (60 : Int32) < _
          rw [e0]
          exact nI_nlt (a := 60) hp (by decide)
        · rw [hS (61 + k) (by omega), if_neg (by omega), if_neg (by omega), show gBeg (I 161) (61 + k) = I 161 (61 + k) from if_pos (by omega)]
          exact hI.1.2.2.1 k hk
      · refine ⟨0, by decide, ?_, ?_, fun k hk => absurd hk (Nat.not_lt_zero _)⟩
        · rw [hloJ _ (by decide) (by decide) (by decide), zs1_self, upd_at, if_pos rfl]
          rfl
        · rw [zs1_self, upd_at, if_pos rfl]
          rfl
end B5
