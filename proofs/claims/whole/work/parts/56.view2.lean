/-! THE CLASS'S VIEW -/
def vlw (I : Nat → Nat → Int32) (l : List Int32) : Nat → Nat → Int32 := zs1 (zup I 157 (fun k => if k < l.length then l.getD k 0 else I 157 k)) 153 4 (nI l.length)
theorem vlw_ne {I : Nat → Nat → Int32} {l : List Int32} {t : Nat} (h : t ≠ 153) (h2 : t ≠ 157) : vlw I l t = I t := by
  unfold vlw
  rw [zs1_ne h, zup_ne h2]
theorem vlw_len {I : Nat → Nat → Int32} {l : List Int32} : vlw I l 153 4 = nI l.length := by
  unfold vlw
  rw [zs1_self]
  rfl
theorem vlw_153 {I : Nat → Nat → Int32} {l : List Int32} {k : Nat} (h : k ≠ 4) : vlw I l 153 k = I 153 k := by
  unfold vlw
  rw [zs1_self, upd_at, if_neg h, zup_ne (by decide)]
theorem vlw_out {I : Nat → Nat → Int32} {l : List Int32} {k : Nat} (h : k < l.length) : vlw I l 157 k = l.getD k 0 := by
  unfold vlw
  rw [zs1_ne (by decide), zup_self, if_pos h]
theorem vlw_nil {I : Nat → Nat → Int32} : zs1 I 153 4 0 = vlw I [] := by
  unfold vlw
  rw [zup_id]
  · rfl
  · funext k
    exact if_neg (Nat.not_lt_zero _)
theorem vlw_r153 {I : Nat → Nat → Int32} {l : List Int32} : vlw I l 153 = upd (I 153) 4 (nI l.length) := by
  unfold vlw
  rw [zs1_self, zup_ne (by decide)]
theorem vlw_r157 {I : Nat → Nat → Int32} {l : List Int32} : vlw I l 157 = fun k => if k < l.length then l.getD k 0 else I 157 k := by
  unfold vlw
  rw [zs1_ne (by decide), zup_self]
theorem vlw_add {I : Nat → Nat → Int32} {l : List Int32} {v : Int32} : zs1 (zs1 (vlw I l) 157 l.length v) 153 4 (nI (l.length + 1)) = vlw I (l ++ [v]) := by
  funext t
  by_cases h1 : t = 153
  · subst h1
    rw [zs1_self, zs1_ne (by decide), vlw_r153, vlw_r153, List.length_append, List.length_singleton]
    funext k
    rw [upd_at, upd_at, upd_at]
    by_cases e : k = 4
    · rw [if_pos e, if_pos e]
    · rw [if_neg e, if_neg e, if_neg e]
  · by_cases h2 : t = 157
    · subst h2
      rw [zs1_ne (by decide), zs1_self, vlw_r157, vlw_r157, List.length_append, List.length_singleton]
      funext k
      rw [upd_at]
      by_cases e : k = l.length
      · rw [if_pos e, if_pos (by omega), e]
        simp
      · rw [if_neg e]
        by_cases e2 : k < l.length
        · rw [if_pos e2, if_pos (by omega)]
          simp [List.getD_eq_getElem?_getD, List.getElem?_append_left e2]
        · rw [if_neg e2, if_neg (by omega)]
    · rw [zs1_ne h1, zs1_ne h2, vlw_ne h1 h2, vlw_ne h1 h2]
/-- the class's letters of a mark -/
def Lc (I : Nat → Nat → Int32) (i : Nat) : List Int32 := (List.range (pN (vC I 6) i)).map fun k => I 12 (6 * i + k)
theorem Lc_len {I : Nat → Nat → Int32} {i : Nat} : (Lc I i).length = pN (vC I 6) i := by
  unfold Lc
  simp
theorem sPr_at {T T' : Nat → Int32} {V V' : Nat → Nat → Int32} {Lt Lt' : Nat → List Int32} {U U' : Nat → Int32} {n t : Nat} (hT : ∀ g, g < t → T g = T' g) (hV : vEq V V' n) (hL : ∀ i, i < n → Lt i = Lt' i) (hU : ∀ i, i < n → U i = U' i) : sPr T V Lt U n t = sPr T' V' Lt' U' n t := by
  have hlo : ∀ g, sLo V U n g = sLo V' U' n g := by
    intro g
    unfold sLo
    refine zan_map (fun j hj => ?_)
    unfold pLo
    rw [hU j hj, hV j 2 hj (by decide), hV j 3 hj (by decide)]
  have hwr : ∀ g k l, sWr V Lt U g k n l = sWr V' Lt' U' g k n l := by
    intro g k l
    unfold sWr
    refine zfo_congr n 0 l (fun j _ hj a => ?_)
    unfold pWr
    rw [hU j (by omega), hV j 1 (by omega) (by decide), hV j 2 (by omega) (by decide), hL j (by omega)]
  unfold sPr
  refine zfo_congr _ _ _ (fun g _ _ a => ?_)
  unfold sGp
  rw [hlo, hwr, hwr]
  by_cases h : g < t
  · rw [hT g h]
  · rw [decide_eq_false h]
    rfl
section V2
variable {X : Nat × (Nat → Int32)} {I : Nat → Nat → Int32}
theorem vlw_at {l : List Int32} {q : Nat} (h : q ≤ 16) : vlw I l q = I q := vlw_ne (by omega) (by omega)
theorem c86 {l : List Int32} {v : Int32} (h : l.length < 180) : zr X 86 0 [.ref 153, .int v] [] (zk (vlw I l)) = some (none, zk (vlw I (l ++ [v]))) := by
  have e := vlw_len (I := I) (l := l)
  rw [k86_0, e, if_neg (show ¬ (180 : Int32) ≤ nI l.length from nI_ge (b := 180) h (by decide)), k86_10 (by rw [e]; exact zin_nI h (by decide)), e, zx_nI (by omega), ← nI_succ, vlw_add]
theorem c85 {l : List Int32} {m p : Nat} (hm : m < 20) (hp : I 11 m = nI p) (hp6 : p ≤ 6) (hl : l.length + p ≤ 180) : zr X 85 0 [.ref 153, .ref 5, .int (nI m), .null] [] (zk (vlw I l)) = some (none, zk (vlw I (l ++ (List.range p).map fun k => I 12 (6 * m + k)))) := by
  have hne : ¬ nI m = -6 := by
    intro z
    have h1 := nI_pos (show m < 2 ^ 31 by omega)
    rw [z] at h1
    exact h1 (by decide)
  rw [k85_0, if_pos hne, k85_7]
  have h : ∀ k i (l : List Int32), i + k = p → l.length + k ≤ 180 → zr X 85 9 [.ref 153, .ref 5, .int (nI m), .int (nI i)] [] (zk (vlw I l)) = some (none, zk (vlw I (l ++ (List.range' i k).map fun k => I 12 (6 * m + k)))) := by
    intro k
    induction k with
    | zero =>
      intro i l hi hl
      rw [k85_9 (zin_nI hm (by decide)), zx_nI (by omega), vlw_at (by decide), hp, if_pos (nI_le (by omega) (by omega)), k85_40]
      simp
    | succ k ih =>
      intro i l hi hl
      have e : nI m * 6 + nI i = nI (6 * m + i) := by rw [nI_6, ← zI_add]
      rw [k85_9 (zin_nI hm (by decide)), zx_nI (by omega), vlw_at (by decide), hp, if_neg (nI_ge (show i < p by omega) (by omega)), k85_19 (by rw [e]; exact zin_nI (by omega) (by decide)), e, zx_nI (by omega), vlw_at (by decide), c86 (by omega), zcb_some, zn_nil, k85_34, ← nI_succ, ih (i + 1) _ (by omega) (by rw [List.length_append, List.length_singleton]; omega)]
      rw [List.append_assoc]
      rfl
  have h1 := h p 0 l (by omega) hl
  have h0 : nI 0 = 0 := nI_0
  rw [h0, ← List.range_eq_range'] at h1
  exact h1
/-- placeChosen -/
def hP (V : Nat → Nat → Int32) (U : Nat → Int32) (g i : Nat) : Prop := U i ≠ 0 ∧ kN V i = 1 ∧ aN V i = g
def hC (V : Nat → Nat → Int32) (U : Nat → Int32) (g i : Nat) : Prop := U i ≠ 0 ∧ kN V i ≠ 1 ∧ aN V i = g
def qAt (h : Nat → Nat → Prop) (t i : Nat) (P : Nat → Int32) : Prop := ∀ g, g ≤ t → (P g = -6 ∧ ∀ j, j < i → ¬ h g j) ∨ ∃ j, j < i ∧ P g = nI j ∧ h g j
theorem qAt_put {h : Nat → Nat → Prop} {t i a : Nat} {P : Nat → Int32} (hq : qAt h t i P) (ha : h a i) (hu : ∀ g, h g i → g = a) : qAt h t (i + 1) (upd P a (nI i)) := by
  intro g hg
  rw [upd_at]
  by_cases e : g = a
  · rw [if_pos e, e]
    exact Or.inr ⟨i, Nat.lt_succ_self i, rfl, ha⟩
  · rw [if_neg e]
    rcases hq g hg with ⟨h1, h2⟩ | ⟨j, h1, h2, h3⟩
    · refine Or.inl ⟨h1, fun j hj hz => ?_⟩
      by_cases ej : j = i
      · rw [ej] at hz
        exact e (hu g hz)
      · exact h2 j (by omega) hz
    · exact Or.inr ⟨j, by omega, h2, h3⟩
theorem qAt_skip {h : Nat → Nat → Prop} {t i : Nat} {P : Nat → Int32} (hq : qAt h t i P) (ha : ∀ g, g ≤ t → ¬ h g i) : qAt h t (i + 1) P := by
  intro g hg
  rcases hq g hg with ⟨h1, h2⟩ | ⟨j, h1, h2, h3⟩
  · refine Or.inl ⟨h1, fun j hj hz => ?_⟩
    by_cases ej : j = i
    · rw [ej] at hz
      exact ha g hg hz
    · exact h2 j (by omega) hz
  · exact Or.inr ⟨j, by omega, h2, h3⟩
theorem c84 {t n : Nat} (hn : n ≤ 20) (hs : I 5 7 = nI n) (hu : okU t n (vC I 6) (I 154)) : ∃ P C, zr X 84 0 [.ref 153, .ref 5, .int (nI t), .null, .null] [] (zk I) = some (none, zk (zup (zup I 155 P) 156 C)) ∧ qAt (hP (vC I 6) (I 154)) t n P ∧ qAt (hC (vC I 6) (I 154)) t n C := by
  obtain ⟨ht, hw, hno⟩ := hu
  rw [k84_0]
  have h1 : ∀ k g (P C : Nat → Int32), g + k = t + 1 → (∀ q, q < g → P q = -6 ∧ C q = -6) → ∃ P' C', zr X 84 2 [.ref 153, .ref 5, .int (nI t), .int (nI g), .null] [] (zk (zup (zup I 155 P) 156 C)) = zr X 84 31 [.ref 153, .ref 5, .int (nI t), .int 0, .null] [] (zk (zup (zup I 155 P') 156 C')) ∧ ∀ q, q ≤ t → P' q = -6 ∧ C' q = -6 := by
    intro k
    induction k with
    | zero =>
      intro g P C hg h
      refine ⟨P, C, ?_, fun q hq => h q (by omega)⟩
      rw [k84_2, if_pos (nI_lt (by omega) (by omega)), k84_29]
    | succ k ih =>
      intro g P C hg h
      have e : zs1 (zs1 (zup (zup I 155 P) 156 C) 155 g (-6)) 156 g (-6) = zup (zup I 155 (upd P g (-6))) 156 (upd C g (-6)) := by
        rw [zup_comm (I := I) (show (155 : Nat) ≠ 156 by decide), zs1_zup, zup_comm (I := I) (show (156 : Nat) ≠ 155 by decide), zs1_zup]
      obtain ⟨P', C', a1, a2⟩ := ih (g + 1) (upd P g (-6)) (upd C g (-6)) (by omega) (fun q hq => by
        rw [upd_at, upd_at]
        by_cases e : q = g
        · rw [if_pos e, if_pos e]
          exact ⟨rfl, rfl⟩
        · rw [if_neg e, if_neg e]
          exact h q (by omega))
      refine ⟨P', C', ?_, a2⟩
      rw [k84_2, if_neg (nI_nlt (show g ≤ t by omega) (by omega)), k84_7 (zin_nI (by omega) (by decide)), zx_nI (by omega), e, ← nI_succ, a1]
  obtain ⟨P0, C0, a1, a2⟩ := h1 (t + 1) 0 (I 155) (I 156) (by omega) (fun q hq => absurd hq (Nat.not_lt_zero _))
  have e0 : zup (zup I 155 (I 155)) 156 (I 156) = I := by rw [zup_id (I := I) (d := 155) rfl, zup_id rfl]
  have h0 : nI 0 = 0 := nI_0
  rw [e0, h0] at a1
  rw [a1]
  have hlo : ∀ (P C : Nat → Int32) q, q ≤ 16 ∨ q = 154 → zup (zup I 155 P) 156 C q = I q := fun P C q hq => by rw [zup_ne (by omega), zup_ne (by omega)]
  have h2 : ∀ k i (P C : Nat → Int32) (w : Value), i + k = n → qAt (hP (vC I 6) (I 154)) t i P → qAt (hC (vC I 6) (I 154)) t i C → ∃ P' C', zr X 84 31 [.ref 153, .ref 5, .int (nI t), .int (nI i), w] [] (zk (zup (zup I 155 P) 156 C)) = some (none, zk (zup (zup I 155 P') 156 C')) ∧ qAt (hP (vC I 6) (I 154)) t n P' ∧ qAt (hC (vC I 6) (I 154)) t n C' := by
    intro k
    induction k with
    | zero =>
      intro i P C w hi hp hc
      have e : i = n := by omega
      subst e
      refine ⟨P, C, ?_, hp, hc⟩
      rw [k84_31, hlo _ _ _ (by decide), hs, if_pos (nI_le (Nat.le_refl _) (by omega)), k84_102]
    | succ k ih =>
      intro i P C w hi hp hc
      have hi2 : i < n := by omega
      have hi0 := zin_nI (show i < 20 by omega) (show (20 : Nat) < 2 ^ 31 by decide)
      have ez : zx (nI i) = i := zx_nI (by omega)
      obtain ⟨w1, w2, w3, w4, w5, w6, w7, w8, w9, w10⟩ := wM_N (hw i hi2) ht
      have e8 : I 8 i = nI (aN (vC I 6) i) := w2
      have e7 : I 7 i = nI (kN (vC I 6) i) := w1
      rw [k84_31, hlo _ _ _ (by decide), hs, if_neg (nI_ge hi2 (by omega)), k84_39 hi0, ez, hlo _ _ 154 (by decide), hlo _ _ 8 (by decide), e8]
      by_cases hU : I 154 i = 0
      · rw [if_pos hU, k84_96, ← nI_succ]
        exact ih (i + 1) P C _ (by omega) (qAt_skip hp (fun g hg z => z.1 hU)) (qAt_skip hc (fun g hg z => z.1 hU))
      · rw [if_neg hU, k84_56, if_neg (nI_pos (by omega)), k84_61, if_neg (nI_nlt (show aN (vC I 6) i ≤ t by omega) (by omega)), k84_67 hi0, ez, hlo _ _ 7 (by decide), e7]
        by_cases hk : kN (vC I 6) i = 1
        · have e : zs1 (zup (zup I 155 P) 156 C) 155 (aN (vC I 6) i) (nI i) = zup (zup I 155 (upd P (aN (vC I 6) i) (nI i))) 156 C := by
            rw [zup_comm (I := I) (show (155 : Nat) ≠ 156 by decide), zs1_zup, zup_comm (I := I) (show (156 : Nat) ≠ 155 by decide)]
          rw [hk, if_neg (show ¬ ¬ nI 1 = 1 from fun z => z rfl), k84_77 (zin_nI (by omega) (by decide)), zx_nI (by omega), e, ← nI_succ]
          exact ih (i + 1) _ C _ (by omega) (qAt_put hp ⟨hU, hk, rfl⟩ (fun g hg => hg.2.2.symm)) (qAt_skip hc (fun g hg z => z.2.1 hk))
        · have e : zs1 (zup (zup I 155 P) 156 C) 156 (aN (vC I 6) i) (nI i) = zup (zup I 155 P) 156 (upd C (aN (vC I 6) i) (nI i)) := zs1_zup
          rw [if_pos (show ¬ nI (kN (vC I 6) i) = 1 from fun z => hk ((nI_inj (b := 1) (by omega) (by decide)).mp z)), k84_88 (zin_nI (by omega) (by decide)), zx_nI (by omega), e, ← nI_succ]
          exact ih (i + 1) P _ _ (by omega) (qAt_skip hp (fun g hg z => hk z.2.1)) (qAt_put hc ⟨hU, hk, rfl⟩ (fun g hg => hg.2.2.symm))
  have h3 := h2 n 0 P0 C0 .null (by omega) (fun g hg => Or.inl ⟨(a2 g hg).1, fun j hj => absurd hj (Nat.not_lt_zero _)⟩) (fun g hg => Or.inl ⟨(a2 g hg).2, fun j hj => absurd hj (Nat.not_lt_zero _)⟩)
  rw [h0] at h3
  exact h3
end V2
