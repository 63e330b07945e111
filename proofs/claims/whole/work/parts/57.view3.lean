/-! the class carries marks out as the reference does -/
section V3
variable {X : Nat × (Nat → Int32)} {I : Nat → Nat → Int32}
theorem c83 {t n : Nat} (hn : n ≤ 20) (hs : I 5 7 = nI n) (hT : I 3 1 = nI t) (hu : okU t n (vC I 6) (I 154)) : ∃ J, zr X 83 0 [.ref 153, .ref 2, .null, .null, .null, .null, .null] [] (zk I) = some (none, zk J) ∧ (∀ q, q ≠ 153 → q ≠ 155 → q ≠ 156 → q ≠ 157 → J q = I q) ∧ J 153 4 = nI (sPr (I 4) (vC I 6) (Lc I) (I 154) n t).length ∧ ∀ k, k < (sPr (I 4) (vC I 6) (Lc I) (I 154) n t).length → J 157 k = (sPr (I 4) (vC I 6) (Lc I) (I 154) n t).getD k 0 := by
  obtain ⟨P, C, p1, p2, p3⟩ := c84 (X := X) hn hs hu
  obtain ⟨ht, hw, hno⟩ := hu
  have hlen := sPr_180 (T := I 4) (Lt := Lc I) (U := I 154) ht hn hw (fun i hi => Lc_len)
  have hlo : ∀ q, q ≤ 16 ∨ q = 154 → zup (zup I 155 P) 156 C q = I q := fun q hq => by rw [zup_ne (by omega), zup_ne (by omega)]
  have hvl : ∀ l q, q ≤ 16 → vlw (zup (zup I 155 P) 156 C) l q = I q := fun l q hq => (vlw_at hq).trans (hlo q (Or.inl hq))
  have hvP : ∀ l, vlw (zup (zup I 155 P) 156 C) l 155 = P := fun l => by rw [vlw_ne (by decide) (by decide), zup_ne (by decide), zup_self]
  have hvC' : ∀ l, vlw (zup (zup I 155 P) 156 C) l 156 = C := fun l => by rw [vlw_ne (by decide) (by decide), zup_self]
  rw [k83_0, hT, p1, zcb_some, zn_nil, k83_19, vlw_nil]
  -- letters of one mark
  have hadd : ∀ m l, m < n → l.length + pN (vC I 6) m ≤ 180 → zr X 85 0 [.ref 153, .ref 5, .int (nI m), .null] [] (zk (vlw (zup (zup I 155 P) 156 C) l)) = some (none, zk (vlw (zup (zup I 155 P) 156 C) (l ++ Lc I m))) := by
    intro m l hm hl
    obtain ⟨w1, w2, w3, w4, w5, w6, w7, w8, w9, w10⟩ := wM_N (hw m hm) ht
    have h := c85 (X := X) (I := zup (zup I 155 P) 156 C) (l := l) (m := m) (p := pN (vC I 6) m) (by omega) (by rw [hlo 11 (by decide)]; exact w4) w8 hl
    rw [hlo 12 (by decide)] at h
    exact h
  have hnoadd : ∀ l, zr X 85 0 [.ref 153, .ref 5, .int (-6), .null] [] (zk (vlw (zup (zup I 155 P) 156 C) l)) = some (none, zk (vlw (zup (zup I 155 P) 156 C) l)) := by
    intro l
    rw [k85_0, if_neg (by decide), k85_6]
  have hne6 : ∀ m, m < n → ¬ nI m = -6 := by
    intro m hm z
    have h1 := nI_pos (show m < 2 ^ 31 by omega)
    rw [z] at h1
    exact h1 (by decide)
  -- what is put in at a gap
  have hA : ∀ g l (v4 : Int32) (v6 : Value), g ≤ t → (sWr (vC I 6) (Lc I) (I 154) (nI g) 1 n l).length ≤ 180 → zr X 83 36 [.ref 153, .ref 2, .ref 5, .int (nI t), .int v4, .int (nI g), v6] [] (zk (vlw (zup (zup I 155 P) 156 C) l)) = zr X 83 48 [.ref 153, .ref 2, .ref 5, .int (nI t), .int v4, .int (nI g), v6] [] (zk (vlw (zup (zup I 155 P) 156 C) (sWr (vC I 6) (Lc I) (I 154) (nI g) 1 n l))) := by
    intro g l v4 v6 hg hl
    have hwr : ∀ i, i < n → (pWr (vC I 6) (I 154) (nI g) 1 i = true ↔ hP (vC I 6) (I 154) g i) := fun i hi => pWr_iff (k := 1) (hw i hi) ht (by omega) (by decide)
    rw [k83_36 (zin_nI (by omega) (by decide)), zx_nI (by omega), hvP]
    rcases p2 g hg with ⟨h1, h2⟩ | ⟨j, hj, h1, h2⟩
    · rw [h1, hnoadd, zcb_some, zn_nil, sWr_zap, zap_none n (fun i hi => by
        cases e : pWr (vC I 6) (I 154) (nI g) 1 i with
        | false => rfl
        | true => exact absurd ((hwr i hi).mp e) (h2 i hi))]
    · have e : sWr (vC I 6) (Lc I) (I 154) (nI g) 1 n l = l ++ Lc I j := by
        rw [sWr_zap]
        refine zap_one ((hwr j hj).mpr h2) n hj (fun i hi hij => ?_)
        cases e : pWr (vC I 6) (I 154) (nI g) 1 i with
        | false => rfl
        | true =>
          have hi1 := (hwr i hi).mp e
          exact absurd (hi1.2.2.trans h2.2.2.symm) ((sC_no (hw i hi) (hw j hj) ht (hno i j hi hj hij hi1.1 h2.1)).1 hi1.2.1 h2.2.1)
      rw [e, List.length_append, Lc_len] at hl
      rw [h1, hadd j l hj hl, zcb_some, zn_nil, e]
  -- the invariant of what is hidden
  let Hd : Nat → Nat → Prop := fun g h => (∀ i, i < n → I 154 i ≠ 0 → kN (vC I 6) i ≠ 1 → aN (vC I 6) i < g → bN (vC I 6) i ≤ h) ∧ (h = 0 ∨ ∃ i, i < n ∧ I 154 i ≠ 0 ∧ kN (vC I 6) i ≠ 1 ∧ aN (vC I 6) i < g ∧ bN (vC I 6) i = h)
  have hB : ∀ g l h (v6 : Value), g ≤ t → Hd g h → (sWr (vC I 6) (Lc I) (I 154) (nI g) 2 n l).length ≤ 180 → ∃ (h' : Nat) (x6 : Int32), h' ≤ 60 ∧ Hd (g + 1) h' ∧ zr X 83 48 [.ref 153, .ref 2, .ref 5, .int (nI t), .int (nI h), .int (nI g), v6] [] (zk (vlw (zup (zup I 155 P) 156 C) l)) = if nI t ≤ nI g then zr X 83 107 [.ref 153, .ref 2, .ref 5, .int (nI t), .int (nI h'), .int (nI g), .int x6] [] (zk (vlw (zup (zup I 155 P) 156 C) (sWr (vC I 6) (Lc I) (I 154) (nI g) 2 n l))) else zr X 83 86 [.ref 153, .ref 2, .ref 5, .int (nI t), .int (nI h'), .int (nI g), .int x6] [] (zk (vlw (zup (zup I 155 P) 156 C) (sWr (vC I 6) (Lc I) (I 154) (nI g) 2 n l))) := by
    intro g l h v6 hg hh hl
    have hwr : ∀ i, i < n → (pWr (vC I 6) (I 154) (nI g) 2 i = true ↔ I 154 i ≠ 0 ∧ kN (vC I 6) i = 2 ∧ aN (vC I 6) i = g) := fun i hi => pWr_iff (k := 2) (hw i hi) ht (by omega) (by decide)
    have hh60 : h ≤ 60 := by
      rcases hh.2 with h0 | ⟨i, hi, _, _, _, hb⟩
      · omega
      · have := wM_N (hw i hi) ht
        omega
    rw [k83_48 (zin_nI (by omega) (by decide)), zx_nI (by omega), hvC']
    rcases p3 g hg with ⟨h1, h2⟩ | ⟨j, hj, h1, h2⟩
    · have e : sWr (vC I 6) (Lc I) (I 154) (nI g) 2 n l = l := by
        rw [sWr_zap]
        refine zap_none n (fun i hi => ?_)
        cases e : pWr (vC I 6) (I 154) (nI g) 2 i with
        | false => rfl
        | true =>
          have := (hwr i hi).mp e
          exact absurd ⟨this.1, by omega, this.2.2⟩ (h2 i hi)
      refine ⟨h, -6, hh60, ⟨fun i hi a b c => ?_, ?_⟩, ?_⟩
      · by_cases eg : aN (vC I 6) i = g
        · exact absurd ⟨a, b, eg⟩ (h2 i hi)
        · exact hh.1 i hi a b (by omega)
      · rcases hh.2 with h0 | ⟨i, hi, a, b, c, d⟩
        · exact Or.inl h0
        · exact Or.inr ⟨i, hi, a, b, by omega, d⟩
      · rw [h1, if_pos rfl, k83_80, e]
    · obtain ⟨w1, w2, w3, w4, w5, w6, w7, w8, w9, w10⟩ := wM_N (hw j hj) ht
      have hone : ∀ i, i < n → I 154 i ≠ 0 → kN (vC I 6) i ≠ 1 → aN (vC I 6) i = g → i = j := by
        intro i hi a b c
        apply Classical.byContradiction
        intro hij
        have wi := wM_N (hw i hi) ht
        have := (sC_no (hw i hi) (hw j hj) ht (hno i j hi hj hij a h2.1)).2.2 b h2.2.1
        have h22 := h2.2.2
        have h21 := h2.2.1
        omega
      have e : sWr (vC I 6) (Lc I) (I 154) (nI g) 2 n l = l ++ Lc I j := by
        rw [sWr_zap]
        by_cases k2 : kN (vC I 6) j = 2
        · refine zap_one ((hwr j hj).mpr ⟨h2.1, k2, h2.2.2⟩) n hj (fun i hi hij => ?_)
          cases e : pWr (vC I 6) (I 154) (nI g) 2 i with
          | false => rfl
          | true =>
            have := (hwr i hi).mp e
            exact absurd (hone i hi this.1 (by omega) this.2.2) hij
        · have h21 := h2.2.1
          have p0 := w10 (by omega)
          have e0 : Lc I j = [] := by
            have := Lc_len (I := I) (i := j)
            rw [p0] at this
            exact List.eq_nil_of_length_eq_zero this
          rw [e0, List.append_nil]
          refine zap_none n (fun i hi => ?_)
          cases e : pWr (vC I 6) (I 154) (nI g) 2 i with
          | false => rfl
          | true =>
            have := (hwr i hi).mp e
            have ij := hone i hi this.1 (by omega) this.2.2
            rw [ij] at this
            exact absurd this.2.1 k2
      have hl2 := hl
      rw [e, List.length_append, Lc_len] at hl2
      have e9 : ∀ l, vlw (zup (zup I 155 P) 156 C) l 9 j = nI (bN (vC I 6) j) := fun l => by rw [hvl l 9 (by decide)]; exact w3
      refine ⟨bN (vC I 6) j, nI j, by omega, ⟨fun i hi a b c => ?_, Or.inr ⟨j, hj, h2.1, h2.2.1, by have := h2.2.2; omega, rfl⟩⟩, ?_⟩
      · by_cases eg : aN (vC I 6) i = g
        · rw [hone i hi a b eg]
          exact Nat.le_refl _
        · have wi := wM_N (hw i hi) ht
          have hij : i ≠ j := fun z => eg (by rw [z]; exact h2.2.2)
          have := (sC_no (hw i hi) (hw j hj) ht (hno i j hi hj hij a h2.1)).2.2 b h2.2.1
          have h22 := h2.2.2
          have h21 := h2.2.1
          omega
      · rw [h1, if_neg (hne6 j hj), k83_64, hadd j l hj hl2, zcb_some, zn_nil, k83_71 (zin_nI (by omega) (by decide)), zx_nI (by omega), e9, e]
  -- the gaps one after the other
  have hG : ∀ k g l h (v6 : Value), g + k = t + 1 → Hd g h → (zfo (sGp (I 4) (vC I 6) (Lc I) (I 154) n t) g k l).length ≤ 180 → zr X 83 30 [.ref 153, .ref 2, .ref 5, .int (nI t), .int (nI h), .int (nI g), v6] [] (zk (vlw (zup (zup I 155 P) 156 C) l)) = some (none, zk (vlw (zup (zup I 155 P) 156 C) (zfo (sGp (I 4) (vC I 6) (Lc I) (I 154) n t) g k l))) := by
    intro k
    induction k with
    | zero =>
      intro g l h v6 hg hh hl
      rw [k83_30, if_pos (nI_lt (by omega) (by omega)), k83_113]
      rfl
    | succ k ih =>
      intro g l h v6 hg hh hl
      have hg2 : g ≤ t := by omega
      have hl2 : (zfo (sGp (I 4) (vC I 6) (Lc I) (I 154) n t) (g + 1) k (sGp (I 4) (vC I 6) (Lc I) (I 154) n t g l)).length ≤ 180 := hl
      have hb : (sGp (I 4) (vC I 6) (Lc I) (I 154) n t g l).length ≤ 180 := Nat.le_trans (zfo_grow (fun i l => Nat.le_trans (Nat.le_trans sWr_grow sWr_grow) sGp_grow) _ _ _) hl2
      have hb2 : (sWr (vC I 6) (Lc I) (I 154) (nI g) 2 n (sWr (vC I 6) (Lc I) (I 154) (nI g) 1 n l)).length ≤ 180 := Nat.le_trans sGp_grow hb
      have hb1 : (sWr (vC I 6) (Lc I) (I 154) (nI g) 1 n l).length ≤ 180 := Nat.le_trans sWr_grow hb2
      obtain ⟨h', x6, hh60, hh', hstep⟩ := hB g (sWr (vC I 6) (Lc I) (I 154) (nI g) 1 n l) h v6 hg2 hh hb2
      rw [k83_30, if_neg (nI_nlt hg2 (by omega)), hA g l _ v6 hg2 hb1, hstep]
      show _ = some (none, zk (vlw (zup (zup I 155 P) 156 C) (zfo (sGp (I 4) (vC I 6) (Lc I) (I 154) n t) (g + 1) k (sGp (I 4) (vC I 6) (Lc I) (I 154) n t g l))))
      by_cases a1 : g < t
      · rw [if_neg (nI_ge a1 (by omega)), k83_86]
        by_cases a2 : g < h'
        · have e : sGp (I 4) (vC I 6) (Lc I) (I 154) n t g l = sWr (vC I 6) (Lc I) (I 154) (nI g) 2 n (sWr (vC I 6) (Lc I) (I 154) (nI g) 1 n l) := by
            have hs : sLo (vC I 6) (I 154) n (nI g) = true := by
              rcases hh'.2 with h0 | ⟨i, hi, q1, q2, q3, q4⟩
              · omega
              · exact (zan_true n 0).mpr ⟨i, Nat.zero_le _, by omega, (pLo_iff (hw i hi) ht (by omega)).mpr ⟨q1, by omega, by omega⟩⟩
            unfold sGp
            rw [hs]
            simp
          rw [if_pos (nI_lt a2 (by omega)), k83_107, ← nI_succ, ih (g + 1) _ h' (.int x6) (by omega) hh' (by rw [← e]; exact hl2), e]
        · have e : sGp (I 4) (vC I 6) (Lc I) (I 154) n t g l = sWr (vC I 6) (Lc I) (I 154) (nI g) 2 n (sWr (vC I 6) (Lc I) (I 154) (nI g) 1 n l) ++ [I 4 g] := by
            have hs : sLo (vC I 6) (I 154) n (nI g) = false := by
              refine (zan_false n 0).mpr (fun i _ hi => ?_)
              have hi : i < n := by omega
              cases e : pLo (vC I 6) (I 154) (nI g) i with
              | false => rfl
              | true =>
                obtain ⟨q1, q2, q3⟩ := (pLo_iff (hw i hi) ht (by omega)).mp e
                have wi := wM_N (hw i hi) ht
                have := hh'.1 i hi q1 (by omega) (by omega)
                omega
            unfold sGp
            rw [hs, decide_eq_true a1]
            rfl
          have hb3 := hb
          rw [e, List.length_append, List.length_singleton] at hb3
          rw [if_neg (nI_nlt (by omega) (by omega)), k83_93 (zin_nI (by omega) (by decide)), zx_nI (by omega), hvl _ 4 (by decide), c86 (by omega), zcb_some, zn_nil, k83_107, ← nI_succ, ← e, ih (g + 1) _ h' (.int x6) (by omega) hh' hl2]
      · have e : sGp (I 4) (vC I 6) (Lc I) (I 154) n t g l = sWr (vC I 6) (Lc I) (I 154) (nI g) 2 n (sWr (vC I 6) (Lc I) (I 154) (nI g) 1 n l) := by
          unfold sGp
          rw [decide_eq_false a1]
          simp
        rw [if_pos (nI_le (by omega) (by omega)), k83_107, ← nI_succ, ih (g + 1) _ h' (.int x6) (by omega) hh' (by rw [← e]; exact hl2), e]
  have h0 : nI 0 = 0 := nI_0
  have hfin := hG (t + 1) 0 [] 0 .null (by omega) ⟨fun i hi a b c => absurd c (Nat.not_lt_zero _), Or.inl rfl⟩ hlen
  rw [h0] at hfin
  refine ⟨_, hfin, fun q q1 q2 q3 q4 => ?_, vlw_len, fun k hk => vlw_out hk⟩
  rw [vlw_ne q1 q4, zup_ne q3, zup_ne q2]
/-- showPrint -/
theorem c81 {t n : Nat} (hn : n ≤ 20) (hs : I 5 7 = nI n) (hT : I 3 1 = nI t) (hu : okU t n (vC I 6) (fun i => zb (decide (vC I 6 5 i = 1)))) : ∃ J, zr X 81 0 [.ref 153, .ref 2, .null] [] (zk I) = some (none, zk J) ∧ (∀ q, q < 153 ∨ 157 < q → J q = I q) ∧ J 153 4 = nI (sPr (I 4) (vC I 6) (Lc I) (fun i => zb (decide (vC I 6 5 i = 1))) n t).length ∧ ∀ k, k < (sPr (I 4) (vC I 6) (Lc I) (fun i => zb (decide (vC I 6 5 i = 1))) n t).length → J 157 k = (sPr (I 4) (vC I 6) (Lc I) (fun i => zb (decide (vC I 6 5 i = 1))) n t).getD k 0 := by
  rw [k81_0]
  have h : ∀ k i, i + k = n → zr X 81 2 [.ref 153, .ref 2, .int (nI i)] [] (zk (zfw I 154 0 (fun i => zb (decide (vC I 6 5 i = 1))) i)) = zr X 81 43 [.ref 153, .ref 2, .int (nI n)] [] (zk (zfw I 154 0 (fun i => zb (decide (vC I 6 5 i = 1))) n)) := by
    intro k
    induction k with
    | zero =>
      intro i h
      have e : i = n := by omega
      subst e
      rw [k81_2, zfw_ne (by decide), hs, if_pos (nI_le (by omega) (by omega))]
    | succ k ih =>
      intro i h
      have hi0 := zin_nI (show i < 20 by omega) (show (20 : Nat) < 2 ^ 31 by decide)
      have e := zfw_succ (I := I) (d := 154) (off := 0) (k := i) (g := fun i => zb (decide (vC I 6 5 i = 1)))
      rw [Nat.zero_add] at e
      rw [k81_2, zfw_ne (by decide), hs, if_neg (nI_ge (show i < n by omega) (by omega)), k81_13 hi0, zx_nI (by omega), zfw_ne (t := 10) (by decide)]
      by_cases a : I 10 i = 1
      · rw [if_neg (fun z => z a), k81_31 hi0, zx_nI (by omega), ← nI_succ, ← ih (i + 1) (by omega), ← e, decide_eq_true (show vC I 6 5 i = 1 from a)]
        rfl
      · rw [if_pos a, k81_35 hi0, zx_nI (by omega), ← nI_succ, ← ih (i + 1) (by omega), ← e, decide_eq_false (show ¬ vC I 6 5 i = 1 from a)]
        rfl
  have h1 := h n 0 (by omega)
  have h0 : nI 0 = 0 := nI_0
  rw [zfw_0, h0] at h1
  have hlo : ∀ q, q ≠ 154 → zfw I 154 0 (fun i => zb (decide (vC I 6 5 i = 1))) n q = I q := fun q hq => zfw_ne hq
  have hvc : vEq (vC (zfw I 154 0 (fun i => zb (decide (vC I 6 5 i = 1))) n) 6) (vC I 6) n := vEq_cells (fun q q1 q2 => hlo q (by omega)) (fun _ _ _ _ => rfl)
  have hU : ∀ i, i < n → zfw I 154 0 (fun i => zb (decide (vC I 6 5 i = 1))) n 154 i = zb (decide (vC I 6 5 i = 1)) := fun i hi => zfw_le hi
  have hu2 : okU t n (vC (zfw I 154 0 (fun i => zb (decide (vC I 6 5 i = 1))) n) 6) (zfw I 154 0 (fun i => zb (decide (vC I 6 5 i = 1))) n 154) := by
    refine ⟨hu.1, fun i hi => wM_at (fun w hw => (hvc i w hi hw).symm) (hu.2.1 i hi), fun i j hi hj hij a b => ?_⟩
    rw [hU i hi] at a
    rw [hU j hj] at b
    rw [vEq_sC hvc hi hj]
    exact hu.2.2 i j hi hj hij a b
  obtain ⟨J, j1, j2, j3, j4⟩ := c83 (X := X) (I := zfw I 154 0 (fun i => zb (decide (vC I 6 5 i = 1))) n) hn (by rw [hlo 5 (by decide)]; exact hs) (by rw [hlo 3 (by decide)]; exact hT) hu2
  have e : sPr (zfw I 154 0 (fun i => zb (decide (vC I 6 5 i = 1))) n 4) (vC (zfw I 154 0 (fun i => zb (decide (vC I 6 5 i = 1))) n) 6) (Lc (zfw I 154 0 (fun i => zb (decide (vC I 6 5 i = 1))) n)) (zfw I 154 0 (fun i => zb (decide (vC I 6 5 i = 1))) n 154) n t = sPr (I 4) (vC I 6) (Lc I) (fun i => zb (decide (vC I 6 5 i = 1))) n t := by
    refine sPr_at (fun g hg => by rw [hlo 4 (by decide)]) hvc (fun i hi => ?_) hU
    unfold Lc pN
    rw [hvc i 4 hi (by decide), hlo 12 (by decide)]
  rw [e] at j3 j4
  refine ⟨J, ?_, fun q hq => ?_, j3, j4⟩
  · rw [h1, k81_43, j1, zcb_some, zn_nil, k81_48]
  · rw [j2 q (by omega) (by omega) (by omega) (by omega)]
    exact hlo q (by omega)
end V3
