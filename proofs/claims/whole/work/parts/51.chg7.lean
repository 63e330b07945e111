/-! a new mark; strike -/
/-- states that are the same but in the row behind the last mark -/
def xEq (n : Nat) (S S' : Nat → Int32) : Prop := ∀ k, k < 675 → ¬ (67 + 12 * n ≤ k ∧ k < 79 + 12 * n) → S' k = S k
theorem xEq_hR {c t n : Nat} {I : Nat → Nat → Int32} {S S' : Nat → Int32} (hx : xEq n S S') (hn : n < 20) (hk : wK S t n) (hw : wS c S) (h : hR I 2 S) : hR I 2 S' := by
  obtain ⟨h1, ⟨b1, b2, b3⟩, h3, h4⟩ := h
  refine ⟨hT_c hk.1 hk.2.2.1 rfl rfl (fun k hk => hx k (by omega) (by omega)) h1, ⟨b1.trans (hx 66 (by decide) (by omega)).symm, fun i w hi hw => ?_, fun i k hi hk2 => ?_⟩, hE_c rfl (fun k k1 k2 => hx k (by omega) (by omega)) h3, hV_c hw.2.2 rfl rfl rfl (fun k k1 k2 => hx k (by omega) (by omega)) h4⟩
  · rw [hx 66 (by decide) (by omega), wK_n hk] at hi
    have e : vR S' w i = vR S w i := hx _ (by omega) (by omega)
    rw [e]
    exact b2 i w (by rw [wK_n hk]; exact hi) hw
  · rw [hx 66 (by decide) (by omega), wK_n hk] at hi
    have e4 : vR S' 4 i = vR S 4 i := hx _ (by omega) (by omega)
    rw [e4] at hk2
    have := (wM_p (hk.2.2.2.2.1.1 i hi)).1
    have e : vR S' (6 + k) i = vR S (6 + k) i := hx _ (by omega) (by omega)
    rw [e]
    exact b3 i k (by rw [wK_n hk]; exact hi) hk2
theorem xEq_wK {t n : Nat} {S S' : Nat → Int32} (hx : xEq n S S') (hn : n < 20) (hk : wK S t n) : wK S' t n := by
  have hv : ∀ i w, i < n → w < 6 → vR S w i = vR S' w i := fun i w hi hw => (hx _ (by omega) (by omega)).symm
  obtain ⟨h1, h2, h3, h4, h5, h6⟩ := hk
  refine ⟨h1, h2, (hx 0 (by decide) (by omega)).trans h3, (hx 66 (by decide) (by omega)).trans h4, wMs_at hv h5, ?_⟩
  rw [← sGs_at hv, hx 0 (by decide) (by omega)]
  exact h6
theorem xEq_wS {c t n : Nat} {S S' : Nat → Int32} (hx : xEq n S S') (hn : n < 20) (hk : wK S t n) (hw : wS c S) : wS c S' := ⟨⟨t, n, xEq_wK hx hn hk⟩, wE_c (fun k k1 k2 => hx k (by omega) (by omega)) hw.2.1, wV_c (fun k k1 k2 => hx k k2 (by omega)) hw.2.2⟩
/-- does a draft clash with one that is not refused, of its ink -/
def sD (V D : Nat → Nat → Int32) (i d : Nat) : Bool := sCl (V 1 i) (V 2 i) (V 3 i) (D 1 d) (D 2 d) (D 3 d)
def pD (V D : Nat → Nat → Int32) (d i : Nat) : Bool := V 0 i == D 0 d && (!(V 5 i == 2) && sD V D i d)
/-- the state with one more mark -/
def nEq (n : Nat) (S S' : Nat → Int32) (D : Nat → Nat → Int32) (L : Nat → Int32) (d : Nat) : Prop := (∀ k, k < 675 → k ≠ 66 → ¬ (67 + 12 * n ≤ k ∧ k < 79 + 12 * n) → S' k = S k) ∧ S' 66 = nI (n + 1) ∧ (∀ w, w < 6 → vR S' w n = D w d) ∧ ∀ k, k < zx (D 4 d) → vR S' (6 + k) n = L (6 * d + k)
theorem nEq_vR {n : Nat} {S S' : Nat → Int32} {D : Nat → Nat → Int32} {L : Nat → Int32} {d : Nat} (h : nEq n S S' D L d) (hn : n < 20) {i w : Nat} (hi : i < n) (hw : w < 12) : vR S' w i = vR S w i := h.1 _ (by omega) (by omega) (by omega)
theorem nEq_wK {t n : Nat} {S S' : Nat → Int32} {D : Nat → Nat → Int32} {L : Nat → Int32} {d : Nat} (h : nEq n S S' D L d) (hn : n < 20) (hk : wK S t n) (hm : wM t D d) (h0 : D 5 d = 0) (hc : zan (pD (vR S) D d) 0 n = false) : wK S' t (n + 1) := by
  have hv : ∀ i w, i < n → w < 6 → vR S w i = vR S' w i := fun i w hi hw => (nEq_vR h hn hi (by omega)).symm
  obtain ⟨h1, h2, h3, h4, h5, h6⟩ := hk
  have e0 : S' 0 = S 0 := h.1 0 (by decide) (by decide) (by omega)
  have h5' := wMs_at hv h5
  have hno : ∀ i, i < n → vR S' 0 i = vR S' 0 n → vR S' 5 i ≠ 2 → sC (vR S') i n = false := by
    intro i hi a b
    have hx := (zan_false n 0).mp hc i (Nat.zero_le _) (by omega)
    unfold pD sD at hx
    rw [hv i 0 hi (by decide), hv i 5 hi (by decide), hv i 1 hi (by decide), hv i 2 hi (by decide), hv i 3 hi (by decide), ← h.2.2.1 0 (by decide), ← h.2.2.1 1 (by decide), ← h.2.2.1 2 (by decide), ← h.2.2.1 3 (by decide), a, beq_self_eq_true, beq_eq_false_iff_ne.mpr b] at hx
    exact hx
  refine ⟨h1, by omega, e0.trans h3, h.2.1, ⟨fun i hi => ?_, fun i j hi hj hij a b c => ?_, fun i j hi hj hij a b => ?_⟩, ?_⟩
  · by_cases e : i = n
    · subst e
      obtain ⟨e, k, a, b, p, q, g0, g1, g2, g3, g4, g5, r⟩ := hm
      exact ⟨e, k, a, b, p, q, (h.2.2.1 0 (by decide)).trans g0, (h.2.2.1 1 (by decide)).trans g1, (h.2.2.1 2 (by decide)).trans g2, (h.2.2.1 3 (by decide)).trans g3, (h.2.2.1 4 (by decide)).trans g4, (h.2.2.1 5 (by decide)).trans g5, r⟩
    · exact h5'.1 i (by omega)
  · by_cases e : i = n
    · subst e
      rw [sC_comm]
      exact hno j (by omega) a.symm c
    · by_cases e2 : j = n
      · subst e2
        exact hno i (by omega) a b
      · exact h5'.2.1 i j (by omega) (by omega) hij a b c
  · have hz : vR S' 5 n = 0 := (h.2.2.1 5 (by decide)).trans h0
    by_cases e : i = n
    · subst e
      rw [hz] at a
      exact absurd a (by decide)
    · by_cases e2 : j = n
      · subst e2
        rw [hz] at b
        exact absurd b (by decide)
      · exact h5'.2.2 i j (by omega) (by omega) hij a b
  · have hz : vR S' 5 n = 0 := (h.2.2.1 5 (by decide)).trans h0
    rw [sGs_S, hz, if_neg (by decide), ← sGs_at hv, e0]
    exact h6
theorem nEq_wS {c t n : Nat} {S S' : Nat → Int32} {D : Nat → Nat → Int32} {L : Nat → Int32} {d : Nat} (h : nEq n S S' D L d) (hn : n < 20) (hk : wK S' t (n + 1)) (hw : wS c S) : wS c S' := ⟨⟨t, n + 1, hk⟩, wE_c (fun k k1 k2 => h.1 k (by omega) (by omega) (by omega)) hw.2.1, wV_c (fun k k1 k2 => h.1 k k2 (by omega) (by omega)) hw.2.2⟩
theorem nEq_hR {c t n : Nat} {I J : Nat → Nat → Int32} {S S' : Nat → Int32} {d : Nat} (h : nEq n S S' (vC I 146) (I 152) d) (hn : n < 20) (hp : zx (vC I 146 4 d) ≤ 6) (hk : wK S t n) (hw : wS c S) (hc : ∀ t, t < 5 ∨ 12 < t → t < 17 → J t = I t) (h5 : J 5 7 = nI (n + 1)) (hr1 : ∀ r w, w < 6 → vC J 6 w r = if r = n then vC I 146 w d else vC I 6 w r) (hr2 : ∀ r k, k < 6 → J 12 (6 * r + k) = if r = n then I 152 (6 * d + k) else I 12 (6 * r + k)) (hr : hR I 2 S) : hR J 2 S' := by
  obtain ⟨h1, ⟨b1, b2, b3⟩, h3, h4⟩ := hr
  have hz : zx (S' 66) = n + 1 := by rw [h.2.1]; exact zx_nI (by omega)
  refine ⟨hT_c hk.1 hk.2.2.1 (hc 3 (by decide) (by decide)) (hc 4 (by decide) (by decide)) (fun k hk => h.1 k (by omega) (by omega) (by omega)) h1, ⟨h5.trans h.2.1.symm, fun i w hi hw => ?_, fun i k hi hk2 => ?_⟩, hE_c (hc 16 (by decide) (by decide)) (fun k k1 k2 => h.1 k (by omega) (by omega) (by omega)) h3, hV_c hw.2.2 (hc 13 (by decide) (by decide)) (hc 14 (by decide) (by decide)) (hc 15 (by decide) (by decide)) (fun k k1 k2 => h.1 k k2 (by omega) (by omega)) h4⟩
  · rw [hz] at hi
    refine (hr1 i w hw).trans ?_
    by_cases e : i = n
    · rw [if_pos e, e]
      exact (h.2.2.1 w hw).symm
    · rw [if_neg e, nEq_vR h hn (show i < n by omega) (by omega)]
      exact b2 i w (by rw [wK_n hk]; omega) hw
  · rw [hz] at hi
    by_cases e : i = n
    · subst e
      rw [h.2.2.1 4 (by decide)] at hk2
      refine (hr2 i k (by omega)).trans ?_
      rw [if_pos rfl]
      exact (h.2.2.2 k hk2).symm
    · rw [nEq_vR h hn (show i < n by omega) (by decide)] at hk2
      have := (wM_p (hk.2.2.2.2.1.1 i (by omega))).1
      refine (hr2 i k (by omega)).trans ?_
      rw [if_neg e, nEq_vR h hn (show i < n by omega) (by omega)]
      exact b3 i k (by rw [wK_n hk]; omega) hk2
section B7
variable {X : Nat × (Nat → Int32)} {I : Nat → Nat → Int32}
theorem c13b {i j : Nat} (hi : i < 20) (hj : j < 20) : zr X 13 0 [.ref 5, .int (nI i), .ref 145, .int (nI j), .null, .null] [] (zk I) = some (some (.int (zb (sD (vC I 6) (vC I 146) i j))), zk I) := by
  have hi1 := zin_nI hi (show (20 : Nat) < 2 ^ 31 by decide)
  have hj1 := zin_nI hj (show (20 : Nat) < 2 ^ 31 by decide)
  have ei : zx (nI i) = i := zx_nI (by omega)
  have ej : zx (nI j) = j := zx_nI (by omega)
  simp only [k13b_0 hi1, k13b_10 hj1, k13b_14 hj1, k13b_27, k13b_31, k13b_39, k13b_44 hi1 hj1, k13b_59, k13b_63, k13b_65, k13b_70 hi1 hj1, k13b_85 hi1 hj1, k13b_100, k13b_104, k13b_106, k13b_111 hj1 hi1, k13b_126 hj1 hi1, k13b_141, k13b_145, k13b_147 hi1 hj1, k13b_162 hj1 hi1, k13b_177, k13b_181, ei, ej, z10, z00, if_true, if_false]
  unfold sD sCl vC
  by_cases a1 : I 7 i = 1
  · by_cases a2 : I 147 j = 1
    · by_cases a3 : I 8 i = I 148 j <;> simp [a1, a2, a3, zb]
    · by_cases a3 : I 8 i ≤ I 148 j
      · simp [a1, a2, a3, zb, Int32.not_lt.mpr a3]
      · by_cases a4 : I 149 j ≤ I 8 i
        · simp [a1, a2, a3, a4, zb, Int32.not_lt.mpr a4]
        · simp [a1, a2, a3, a4, zb, Int32.not_le.mp a3, Int32.not_le.mp a4]
  · by_cases a2 : I 147 j = 1
    · by_cases a3 : I 148 j ≤ I 8 i
      · simp [a1, a2, a3, zb, Int32.not_lt.mpr a3]
      · by_cases a4 : I 9 i ≤ I 148 j
        · simp [a1, a2, a3, a4, zb, Int32.not_lt.mpr a4]
        · simp [a1, a2, a3, a4, zb, Int32.not_le.mp a3, Int32.not_le.mp a4]
    · by_cases a3 : I 149 j ≤ I 8 i
      · simp [a1, a2, a3, zb, Int32.not_lt.mpr a3]
      · by_cases a4 : I 9 i ≤ I 148 j
        · simp [a1, a2, a3, a4, zb, Int32.not_lt.mpr a4]
        · simp [a1, a2, a3, a4, zb, Int32.not_le.mp a3, Int32.not_le.mp a4]
theorem c15 {n d : Nat} (hn : n ≤ 20) (hs : I 5 7 = nI n) (hd : d < 20) : zr X 15 0 [.ref 5, .ref 145, .int (nI d), .null] [] (zk I) = some (some (.int (zb (zan (pD (vC I 6) (vC I 146) d) 0 n))), zk I) := by
  have hd1 := zin_nI hd (show (20 : Nat) < 2 ^ 31 by decide)
  have ed : zx (nI d) = d := zx_nI (by omega)
  rw [k15_0]
  have h := zlook (F := fun i => zr X 15 2 [.ref 5, .ref 145, .int (nI d), .int (nI i)] [] (zk I)) (n := n) (T := some (some (.int 1), zk I)) (E := some (some (.int 0), zk I)) (p := pD (vC I 6) (vC I 146) d) ?_ ?_ n 0 (by omega)
  · have h0 : nI 0 = 0 := nI_0
    rw [← h0, h]
    cases zan (pD (vC I 6) (vC I 146) d) 0 n <;> rfl
  · intro i hi
    have hi1 := zin_nI (show i < 20 by omega) (show (20 : Nat) < 2 ^ 31 by decide)
    have ei : zx (nI i) = i := zx_nI (by omega)
    rw [k15_2, hs, if_neg (nI_ge hi (by omega)), k15_10 hi1 hd1, ei, ed]
    by_cases a1 : I 6 i = I 146 d
    · rw [if_neg (fun z => z a1), k15_25 hi1, ei]
      by_cases a2 : I 10 i = 2
      · rw [if_pos a2, k15_47, ← nI_succ, show pD (vC I 6) (vC I 146) d i = false by simp [pD, vC, a2], if_neg (by decide)]
      · rw [if_neg a2, k15_35, c13b (show i < 20 by omega) hd, zcb_some, zn_one, k15_42]
        by_cases a3 : sD (vC I 6) (vC I 146) i d = true
        · rw [a3, zb_t, if_neg (by decide), k15_45, show pD (vC I 6) (vC I 146) d i = true by unfold pD; rw [a3]; simp [vC, a1, a2], if_pos rfl]
        · rw [Bool.not_eq_true] at a3
          rw [a3, zb_f, if_pos rfl, k15_47, ← nI_succ, show pD (vC I 6) (vC I 146) d i = false by unfold pD; rw [a3]; simp, if_neg (by decide)]
    · rw [if_pos a1, k15_47, ← nI_succ, show pD (vC I 6) (vC I 146) d i = false by simp [pD, vC, a1], if_neg (by decide)]
  · rw [k15_2, hs, if_pos (nI_le (Nat.le_refl _) (by omega)), k15_53]
/-- take -/
theorem c8 {n d : Nat} (hn : n < 20) (hs : I 5 7 = nI n) (hd : d < 20) : ∃ J, zr X 8 0 [.ref 5, .ref 145, .int (nI d)] [] (zk I) = some (none, zk J) ∧ J 5 7 = nI (n + 1) ∧ (∀ t, t < 5 ∨ 12 < t → J t = I t) ∧ (∀ r w, w < 6 → vC J 6 w r = if r = n then vC I 146 w d else vC I 6 w r) ∧ ∀ r k, k < 6 → J 12 (6 * r + k) = if r = n then I 152 (6 * d + k) else I 12 (6 * r + k) := by
  obtain ⟨J, j1, j2, j3, j4⟩ := c10b (X := X) (I := I) hd hn
  have h5 : J 5 7 = nI n := by rw [j2 5 (by decide)]; exact hs
  rw [k8_0, hs, if_neg (show ¬ (20 : Int32) ≤ nI n from nI_ge (b := 20) hn (by decide)), k8_9, hs, j1, zcb_some, zn_nil, k8_19, h5, ← nI_succ]
  refine ⟨_, rfl, by rw [zs1_self, upd_at, if_pos rfl], fun t ht => ?_, fun r w hw => ?_, fun r k hk => ?_⟩
  · rw [zs1_ne (by omega)]
    exact j2 t (by omega)
  · rw [← j3 r w hw]
    have hw5 : w = 0 ∨ w = 1 ∨ w = 2 ∨ w = 3 ∨ w = 4 ∨ w = 5 := by omega
    rcases hw5 with rfl | rfl | rfl | rfl | rfl | rfl <;> exact congrFun (zs1_ne (by decide)) r
  · rw [zs1_ne (by decide), j4 r k hk]
theorem c53n {t : Nat} {v : Int32} (ht : t ≤ 60) (hs : I 3 1 = nI t) (h : v < 0 ∨ nI (t + 1) ≤ v) : zr X 53 0 [.ref 2, .int v] [] (zk I) = some (some (.int 0), zk I) := by
  rw [k53_0]
  by_cases h1 : v < 0
  · rw [if_pos h1, k53_19]
  · rw [if_neg h1, k53_4, hs, if_pos (Int32.lt_of_lt_of_le (nI_lt (Nat.lt_succ_self t) (by omega)) (h.resolve_left h1)), k53_19]
theorem c53y {t a : Nat} (ht : t ≤ 60) (hs : I 3 1 = nI t) (h : a ≤ t) : zr X 53 0 [.ref 2, .int (nI a)] [] (zk I) = some (some (.int 1), zk I) := by
  rw [k53_0, if_neg (nI_pos (by omega)), k53_4, hs, if_neg (nI_nlt h (by omega)), k53_15]
/-- nothing is recorded; what is now may be another row of the reference's -/
theorem inv_q' {c : Nat} {I1 J : Nat → Nat → Int32} (h : Inv c I) (h1 : cQ I I1) (b1 : ∀ t, t < 160 → J t = I1 t) (b2 : J 160 4 = I1 160 4) (b3 : J 160 8 = I1 160 8) (b5 : ∀ t, 163 ≤ t → t < 167 → J t = I1 t) (hr : hR I 2 (J 161)) (hw : wS c (J 161)) : Inv (c + 1) J := by
  obtain ⟨⟨n1, n2⟩, hh, hl, hp⟩ := h
  have hs : ∀ t, t < 144 → J t = I t := fun t ht => (b1 t (by omega)).trans (h1 t (Or.inl ht))
  have hm : ∀ t, 160 ≤ t → I1 t = I t := fun t ht => h1 t (Or.inr ht)
  have hm5 : ∀ t, 163 ≤ t → t < 167 → J t = I t := fun t t1 t2 => (b5 t t1 t2).trans (hm t (by omega))
  exact ⟨⟨hR_cells (fun t t1 t2 => hs t (by omega)) hr, wS_le hw (Nat.le_succ c)⟩, iH_keep (Nat.le_succ c) (hs _ (by decide)) (fun t t1 t2 => hs t (by omega)) (b2.trans (congrFun (hm _ (by decide)) 4)) (hm5 _ (by decide) (by decide)) hh, iL_keep (Nat.le_succ c) (hs _ (by decide)) (hm5 _ (by decide) (by decide)) (fun t t1 t2 => hs t (by omega)) (hm5 _ (by decide) (by decide)) hl, iP_keep (congrFun (hs _ (by decide)) 1) (b3.trans (congrFun (hm _ (by decide)) 8)) (hs _ (by decide)) (hm5 _ (by decide) (by decide)) hp⟩
end B7
