/-! SHIPPING: gaps that are carried over -/
/-- accepted; ahead of a gap -/
def acc (V : Nat → Nat → Int32) (i : Nat) : Bool := decide (V 5 i = 1)
def aI (V : Nat → Nat → Int32) (f : Bool) (g : Int32) (i : Nat) : Bool := if V 1 i = 1 then decide (V 2 i < g) || (f && decide (V 2 i = g)) else decide (V 3 i ≤ g)
/-- the class's -/
def sAh (V : Nat → Nat → Int32) (n : Nat) (g : Int32) : Int32 := zfo (fun i a => if (acc V i && aI V false g i) = true then a + sG V i else a) 0 n g
def sAt (V : Nat → Nat → Int32) (n : Nat) (g : Int32) : Int32 := zfo (fun i a => if (acc V i && (decide (V 1 i = 1) && decide (V 2 i = g))) = true then a + V 4 i else a) 0 n 0
/-- the reference's -/
def sCr (V : Nat → Nat → Int32) (U : Nat → Int32) (n g : Nat) (f : Bool) : Int32 := zfo (fun i a => if (!(U i == 0) && aI V f (nI g) i) = true then a + V 4 i else a) 0 n (nI (zct (fun p => !sLo V U n (nI p)) g))
/-- both, as numbers -/
def qB (V : Nat → Nat → Int32) (f : Bool) (g i : Nat) : Bool := if kN V i = 1 then decide (aN V i < g) || (f && decide (aN V i = g)) else decide (bN V i ≤ g)
def lo (V : Nat → Nat → Int32) (n p : Nat) : Bool := sLo V (fun i => zb (decide (V 5 i = 1))) n (nI p)
def cg (V : Nat → Nat → Int32) (n : Nat) (f : Bool) (g : Nat) : Nat := zct (fun p => !lo V n p) g + zsm (fun i => if (acc V i && qB V f g i) = true then pN V i else 0) n
def pat (V : Nat → Nat → Int32) (n g : Nat) : Nat := zsm (fun i => if (acc V i && (decide (kN V i = 1) && decide (aN V i = g))) = true then pN V i else 0) n
theorem acc_iff {V : Nat → Nat → Int32} {i : Nat} : acc V i = true ↔ V 5 i = 1 := decide_eq_true_iff
theorem zb_nz {p : Prop} {h : Decidable p} : zb (decide p) ≠ 0 ↔ p := by
  by_cases hp : p
  · rw [decide_eq_true hp]
    exact ⟨fun _ => hp, fun _ => by decide⟩
  · rw [decide_eq_false hp]
    exact ⟨fun z => absurd rfl z, fun z => absurd z hp⟩
theorem aI_qB {t : Nat} {V : Nat → Nat → Int32} {i g : Nat} {f : Bool} (hi : wM t V i) (ht : t ≤ 60) (hg : g ≤ 60) : aI V f (nI g) i = qB V f g i := by
  obtain ⟨i1, i2, i3, i4, i5, i6, i7, -⟩ := wM_N hi ht
  unfold aI qB
  rw [i1, i2, i3]
  by_cases k : kN V i = 1
  · rw [if_pos (by rw [k]; rfl), if_pos k, decide_eq_decide.mpr (nI_lt_iff (by omega) (by omega)), decide_eq_decide.mpr (nI_inj (by omega) (by omega))]
  · rw [if_neg (show ¬ nI (kN V i) = 1 from fun z => k ((nI_inj (b := 1) (by omega) (by decide)).mp z)), if_neg k, decide_eq_decide.mpr (nI_le_iff (by omega) (by omega))]
theorem sAh_num {t n g : Nat} {V : Nat → Nat → Int32} (ht : t ≤ 60) (hg : g ≤ 60) (hw : ∀ i, i < n → wM t V i) : ∀ k, k ≤ n → zfo (fun i a => if (acc V i && aI V false (nI g) i) = true then a + sG V i else a) 0 k (nI g) = nI (g + zsm (fun i => if (acc V i && qB V false g i) = true then pN V i else 0) k) - nI (zsm (fun i => if (acc V i && qB V false g i) = true then bN V i - aN V i else 0) k)
  | 0, _ => by
    show nI g = nI (g + 0) - nI 0
    rw [Nat.add_zero, show nI 0 = (0 : Int32) from nI_0, Int32.sub_zero]
  | k + 1, hk => by
    have ih := sAh_num ht hg hw k (by omega)
    obtain ⟨-, i2, i3, i4, -, i6, -⟩ := wM_N (hw k (by omega)) ht
    rw [zfo_last, ih, zsm_s, zsm_s, Nat.zero_add, aI_qB (hw k (by omega)) ht hg]
    by_cases h : (acc V k && qB V false g k) = true
    · rw [if_pos h, if_pos h, if_pos h]
      unfold sG
      rw [i2, i3, i4, zI_sub i6, ← Nat.add_assoc, zI_add (g + zsm _ k), zI_add (zsm _ k) (bN V k - aN V k)]
      simp only [Int32.sub_eq_add_neg, Int32.neg_add]
      simp only [Int32.add_assoc, i32_lc, Int32.add_comm]
    · rw [if_neg h, if_neg h, if_neg h]
      rfl
theorem zct_not {p : Nat → Bool} : ∀ n, zct (fun i => !p i) n + zct p n = n
  | 0 => rfl
  | n + 1 => by
    have ih := zct_not (p := p) n
    rw [zct_s, zct_s]
    cases p n <;> simp <;> omega
/-- letters ahead of a gap that are left out -/
theorem lo_left {t n g : Nat} {V : Nat → Nat → Int32} (hu : okU t n V (fun i => zb (decide (V 5 i = 1)))) (hg : g ≤ t) (hin : ∀ i, i < n → V 5 i = 1 → ¬ (aN V i < g ∧ g < bN V i)) : zct (fun p => !lo V n p) g + zsm (fun i => if (acc V i && qB V false g i) = true then bN V i - aN V i else 0) n = g := by
  have h1 := zct_not (p := lo V n) g
  have h2 : zct (lo V n) g = zsm (fun i => if (acc V i && qB V false g i) = true then bN V i - aN V i else 0) n := by
    rw [zct_sm]
    unfold lo
    rw [zsm_at (fun p hp => sLo_sum hu (show p < t by omega)), zsm_comm]
    refine zsm_at (fun i hi => ?_)
    have wi := wM_N (hu.2.1 i hi) hu.1
    by_cases hU : V 5 i = 1
    · have ha : acc V i = true := acc_iff.mpr hU
      rw [ha, Bool.true_and, zsm_at (g := fun p => if aN V i ≤ p ∧ p < bN V i then 1 else 0) (fun p hp => by
        by_cases z : aN V i ≤ p ∧ p < bN V i
        · rw [if_pos z, if_pos ⟨zb_nz.mpr hU, z⟩]
        · rw [if_neg z, if_neg (fun y => z y.2)]), zsm_in]
      have hi3 := hin i hi hU
      unfold qB
      by_cases k : kN V i = 1
      · rw [if_pos k]
        split <;> omega
      · rw [if_neg k]
        by_cases b : bN V i ≤ g
        · rw [if_pos (decide_eq_true b)]
          omega
        · rw [if_neg (by simpa using b)]
          omega
    · have ha : acc V i = false := decide_eq_false hU
      rw [ha, Bool.false_and, if_neg (by decide), zsm_at (g := fun _ => 0) (fun p hp => if_neg (fun y => zb_nz.mp y.1 |> hU)), zsm_0]
  omega
theorem sAh_cg {t n g : Nat} {V : Nat → Nat → Int32} (hu : okU t n V (fun i => zb (decide (V 5 i = 1)))) (hg : g ≤ t) (hin : ∀ i, i < n → V 5 i = 1 → ¬ (aN V i < g ∧ g < bN V i)) : sAh V n (nI g) = nI (cg V n false g) := by
  have h := lo_left hu hg hin
  have ht := hu.1
  unfold sAh
  rw [sAh_num ht (by omega) hu.2.1 n (Nat.le_refl n)]
  unfold cg
  generalize zsm (fun i => if (acc V i && qB V false g i) = true then pN V i else 0) n = p at h ⊢
  generalize zsm (fun i => if (acc V i && qB V false g i) = true then bN V i - aN V i else 0) n = d at h ⊢
  generalize zct (fun p => !lo V n p) g = z at h ⊢
  rw [show g + p = z + p + d by omega, zI_add (z + p) d]
  exact Int32.add_sub_cancel _ _
theorem zfo_sm {p : Nat → Bool} {q : Nat → Bool} {x : Nat → Int32} {y : Nat → Nat} {b : Nat} : ∀ n, (∀ i, i < n → p i = q i) → (∀ i, i < n → x i = nI (y i)) → zfo (fun i a => if p i = true then a + x i else a) 0 n (nI b) = nI (b + zsm (fun i => if q i = true then y i else 0) n)
  | 0, _, _ => rfl
  | n + 1, hp, hx => by
    have ih := zfo_sm (b := b) n (fun i hi => hp i (by omega)) (fun i hi => hx i (by omega))
    rw [zfo_last, ih, zsm_s, Nat.zero_add, hp n (by omega)]
    by_cases h : q n = true
    · rw [if_pos h, if_pos h, hx n (by omega), ← zI_add, Nat.add_assoc]
    · rw [if_neg h, if_neg h]
      rfl
theorem sAt_num {t n g : Nat} {V : Nat → Nat → Int32} (ht : t ≤ 60) (hg : g ≤ 60) (hw : ∀ i, i < n → wM t V i) : sAt V n (nI g) = nI (pat V n g) := by
  have h := zfo_sm (p := fun i => acc V i && (decide (V 1 i = 1) && decide (V 2 i = nI g))) (q := fun i => acc V i && (decide (kN V i = 1) && decide (aN V i = g))) (x := V 4) (y := pN V) (b := 0) n (fun i hi => ?_) (fun i hi => (wM_N (hw i hi) ht).2.2.2.1)
  · rw [Nat.zero_add, nI_0] at h
    exact h
  · obtain ⟨i1, i2, i3, i4, i5, i6, i7, -⟩ := wM_N (hw i hi) ht
    rw [i1, i2, decide_eq_decide.mpr (show nI (kN V i) = 1 ↔ kN V i = 1 from nI_inj (b := 1) (by omega) (by decide)), decide_eq_decide.mpr (nI_inj (by omega) (by omega))]
theorem cg_true {n g : Nat} {V : Nat → Nat → Int32} : cg V n true g = cg V n false g + pat V n g := by
  unfold cg pat
  rw [Nat.add_assoc, ← zsm_add]
  congr 1
  refine zsm_at (fun i hi => ?_)
  unfold qB
  by_cases a : acc V i = true
  · rw [a]
    by_cases k : kN V i = 1
    · by_cases e : aN V i = g
      · simp [k, e]
      · simp [k, e]
    · simp [k]
  · rw [Bool.not_eq_true] at a
    simp [a]
theorem sCr_num {t n g : Nat} {f : Bool} {V : Nat → Nat → Int32} {U : Nat → Int32} (ht : t ≤ 60) (hg : g ≤ 60) (hw : ∀ i, i < n → wM t V i) (hU : ∀ i, i < n → U i = zb (decide (V 5 i = 1))) : sCr V U n g f = nI (cg V n f g) := by
  unfold sCr
  rw [zfo_sm (q := fun i => acc V i && qB V f g i) (y := pN V) n (fun i hi => ?_) (fun i hi => (wM_N (hw i hi) ht).2.2.2.1)]
  · unfold cg
    congr 2
    refine zct_at (fun p _ => ?_)
    unfold lo
    rw [sLo_congr hU]
  · rw [aI_qB (hw i hi) ht hg, hU i hi]
    unfold acc
    by_cases h : V 5 i = 1
    · rw [decide_eq_true h]
      rfl
    · rw [decide_eq_false h]
      rfl
theorem zct_mono {p : Nat → Bool} {a : Nat} : ∀ k, zct p a ≤ zct p (a + k)
  | 0 => Nat.le_refl _
  | k + 1 => Nat.le_trans (zct_mono k) (by rw [← Nat.add_assoc, zct_s]; omega)
theorem zsm_mono {f g : Nat → Nat} : ∀ {n : Nat}, (∀ i, i < n → f i ≤ g i) → zsm f n ≤ zsm g n
  | 0, _ => Nat.le_refl _
  | n + 1, h => by
    rw [zsm_s, zsm_s]
    exact Nat.add_le_add (zsm_mono (fun i hi => h i (by omega))) (h n (by omega))
theorem zif_le {p q : Bool} {x : Nat} (h : p = true → q = true) : (if p = true then x else 0) ≤ if q = true then x else 0 := by
  by_cases hp : p = true
  · rw [if_pos hp, if_pos (h hp)]
    exact Nat.le_refl _
  · rw [if_neg hp]
    exact Nat.zero_le _
theorem qB_mono {V : Nat → Nat → Int32} {f f' : Bool} {g g' i : Nat} (h : g < g' ∨ g = g' ∧ (f = true → f' = true)) (hq : qB V f g i = true) : qB V f' g' i = true := by
  unfold qB at hq ⊢
  by_cases k : kN V i = 1
  · rw [if_pos k] at hq ⊢
    simp only [Bool.or_eq_true, Bool.and_eq_true, decide_eq_true_eq] at hq ⊢
    rcases h with h | ⟨h, h2⟩
    · omega
    · subst h
      exact hq.imp id (fun z => ⟨h2 z.1, z.2⟩)
  · rw [if_neg k] at hq ⊢
    simp only [decide_eq_true_eq] at hq ⊢
    omega
theorem cg_mono {V : Nat → Nat → Int32} {n : Nat} {f f' : Bool} {g g' : Nat} (h : g < g' ∨ g = g' ∧ (f = true → f' = true)) : cg V n f g ≤ cg V n f' g' := by
  unfold cg
  refine Nat.add_le_add ?_ (zsm_mono (fun i _ => zif_le (fun z => ?_)))
  · have := zct_mono (p := fun p => !lo V n p) (a := g) (g' - g)
    rw [show g + (g' - g) = g' by omega] at this
    exact this
  · rw [Bool.and_eq_true] at z ⊢
    exact ⟨z.1, qB_mono h z.2⟩
theorem cg_lt {V : Nat → Nat → Int32} {n : Nat} {f f' : Bool} {g g' : Nat} (h : g < g') (hl : lo V n g = false) : cg V n f g < cg V n f' g' := by
  unfold cg
  have h1 := zct_mono (p := fun p => !lo V n p) (a := g + 1) (g' - (g + 1))
  rw [show g + 1 + (g' - (g + 1)) = g' by omega, zct_s, hl] at h1
  have h2 : zsm (fun i => if (acc V i && qB V f g i) = true then pN V i else 0) n ≤ zsm (fun i => if (acc V i && qB V f' g' i) = true then pN V i else 0) n := zsm_mono (fun i _ => zif_le (fun z => by
    rw [Bool.and_eq_true] at z ⊢
    exact ⟨z.1, qB_mono (Or.inl h) z.2⟩))
  simp only [Bool.not_false, if_true] at h1
  omega
/-- the print's length -/
theorem sPr_cg {T : Nat → Int32} {t n : Nat} {V : Nat → Nat → Int32} {Lt : Nat → List Int32} (hu : okU t n V (fun i => zb (decide (V 5 i = 1)))) (hL : ∀ i, i < n → (Lt i).length = pN V i) : (sPr T V Lt (fun i => zb (decide (V 5 i = 1))) n t).length = cg V n true t := by
  have h1 := sPr_sum (T := T) hu hL
  have h2 := lo_left hu (Nat.le_refl t) (fun i hi _ z => by
    have := wM_N (hu.2.1 i hi) hu.1
    omega)
  have h3 : zsm (fun i => if (acc V i && qB V false t i) = true then bN V i - aN V i else 0) n = zsm (fun i => if zb (decide (V 5 i = 1)) ≠ 0 then bN V i - aN V i else 0) n := by
    refine zsm_at (fun i hi => ?_)
    have wi := wM_N (hu.2.1 i hi) hu.1
    by_cases hU : V 5 i = 1
    · rw [acc_iff.mpr hU, Bool.true_and, if_pos (zb_nz.mpr hU)]
      unfold qB
      by_cases k : kN V i = 1
      · rw [if_pos k]
        split <;> omega
      · rw [if_neg k, if_pos (decide_eq_true (by omega))]
    · rw [show acc V i = false from decide_eq_false hU, Bool.false_and, if_neg (by decide), if_neg (fun z => hU (zb_nz.mp z))]
  have h4 : zsm (fun i => if (acc V i && qB V true t i) = true then pN V i else 0) n = zsm (fun i => if zb (decide (V 5 i = 1)) ≠ 0 then pN V i else 0) n := by
    refine zsm_at (fun i hi => ?_)
    have wi := wM_N (hu.2.1 i hi) hu.1
    by_cases hU : V 5 i = 1
    · rw [acc_iff.mpr hU, Bool.true_and, if_pos (zb_nz.mpr hU), if_pos]
      unfold qB
      by_cases k : kN V i = 1
      · rw [if_pos k]
        simp only [Bool.true_and, Bool.or_eq_true, decide_eq_true_eq]
        omega
      · rw [if_neg k]
        exact decide_eq_true (by omega)
    · rw [show acc V i = false from decide_eq_false hU, Bool.false_and, if_neg (by decide), if_neg (fun z => hU (zb_nz.mp z))]
  unfold cg
  rw [h4]
  rw [h3] at h2
  omega
