/-! THE PRINT: how long it is; what is written at a gap when the marks that are carried out don't clash -/
def kN (V : Nat → Nat → Int32) (i : Nat) : Nat := zx (V 1 i)
def aN (V : Nat → Nat → Int32) (i : Nat) : Nat := zx (V 2 i)
def bN (V : Nat → Nat → Int32) (i : Nat) : Nat := zx (V 3 i)
def pN (V : Nat → Nat → Int32) (i : Nat) : Nat := zx (V 4 i)
theorem wM_N {t : Nat} {V : Nat → Nat → Int32} {i : Nat} (h : wM t V i) (ht : t ≤ 60) : V 1 i = nI (kN V i) ∧ V 2 i = nI (aN V i) ∧ V 3 i = nI (bN V i) ∧ V 4 i = nI (pN V i) ∧ kN V i < 3 ∧ aN V i ≤ bN V i ∧ bN V i ≤ t ∧ pN V i ≤ 6 ∧ (kN V i = 1 ↔ aN V i = bN V i) ∧ (kN V i = 0 → pN V i = 0) := by
  obtain ⟨e, k, a, b, p, q, h0, h1, h2, h3, h4, h5, r1, r2, r3, r4, r5, r6, r7, r8⟩ := h
  have ek : kN V i = k := by unfold kN; rw [h1]; exact zx_nI (by omega)
  have ea : aN V i = a := by unfold aN; rw [h2]; exact zx_nI (by omega)
  have eb : bN V i = b := by unfold bN; rw [h3]; exact zx_nI (by omega)
  have ep : pN V i = p := by unfold pN; rw [h4]; exact zx_nI (by omega)
  rw [ek, ea, eb, ep]
  exact ⟨h1, h2, h3, h4, r2, r3, r4, r5, r7, r8⟩
/-- what it means that two marks don't clash -/
theorem sC_no {t : Nat} {V : Nat → Nat → Int32} {i j : Nat} (hi : wM t V i) (hj : wM t V j) (ht : t ≤ 60) (h : sC V i j = false) : (kN V i = 1 → kN V j = 1 → aN V i ≠ aN V j) ∧ (kN V i = 1 → kN V j ≠ 1 → ¬ (aN V j < aN V i ∧ aN V i < bN V j)) ∧ (kN V i ≠ 1 → kN V j ≠ 1 → ¬ (aN V i < bN V j ∧ aN V j < bN V i)) := by
  obtain ⟨i1, i2, i3, i4, i5, i6, i7, i8, i9, i10⟩ := wM_N hi ht
  obtain ⟨j1, j2, j3, j4, j5, j6, j7, j8, j9, j10⟩ := wM_N hj ht
  unfold sC sCl at h
  rw [i1, i2, i3, j1, j2, j3, show (1 : Int32) = nI 1 from rfl] at h
  refine ⟨fun a b => ?_, fun a b => ?_, fun a b => ?_⟩
  · rw [a, b, if_pos rfl, if_pos rfl, decide_eq_false_iff_not, nI_inj (by omega) (by omega)] at h
    exact h
  · rw [a, if_pos rfl, if_neg (fun z => b ((nI_inj (by omega) (by omega)).mp z))] at h
    rintro ⟨c, d⟩
    rw [decide_eq_true (nI_lt c (by omega)), decide_eq_true (nI_lt d (by omega))] at h
    cases h
  · rw [if_neg (fun z => a ((nI_inj (by omega) (by omega)).mp z)), if_neg (fun z => b ((nI_inj (by omega) (by omega)).mp z))] at h
    rintro ⟨c, d⟩
    rw [decide_eq_true (nI_lt c (by omega)), decide_eq_true (nI_lt d (by omega))] at h
    cases h
/-- marks that may be carried out together -/
def okU (t n : Nat) (V : Nat → Nat → Int32) (U : Nat → Int32) : Prop := t ≤ 60 ∧ (∀ i, i < n → wM t V i) ∧ ∀ i j, i < n → j < n → i ≠ j → U i ≠ 0 → U j ≠ 0 → sC V i j = false
theorem pWr_iff {t : Nat} {V : Nat → Nat → Int32} {U : Nat → Int32} {g k i : Nat} (hi : wM t V i) (ht : t ≤ 60) (hg : g ≤ 60) (hk : k < 3) : pWr V U (nI g) (nI k) i = true ↔ U i ≠ 0 ∧ kN V i = k ∧ aN V i = g := by
  obtain ⟨i1, i2, i3, i4, i5, i6, i7, i8, i9, i10⟩ := wM_N hi ht
  unfold pWr
  rw [i1, i2]
  simp only [Bool.and_eq_true, Bool.not_eq_true', beq_eq_false_iff_ne, beq_iff_eq, ne_eq]
  rw [nI_inj (by omega) (by omega), nI_inj (by omega) (by omega)]
theorem pLo_iff {t : Nat} {V : Nat → Nat → Int32} {U : Nat → Int32} {g i : Nat} (hi : wM t V i) (ht : t ≤ 60) (hg : g ≤ 60) : pLo V U (nI g) i = true ↔ U i ≠ 0 ∧ aN V i ≤ g ∧ g < bN V i := by
  obtain ⟨i1, i2, i3, i4, i5, i6, i7, i8, i9, i10⟩ := wM_N hi ht
  unfold pLo
  rw [i2, i3]
  simp only [Bool.and_eq_true, Bool.not_eq_true', beq_eq_false_iff_ne, ne_eq, decide_eq_true_eq]
  rw [nI_lt_iff (by omega) (by omega)]
  by_cases b0 : bN V i = 0
  · rw [b0]
    have : nI 0 - 1 < nI g := by
      have hx : ∀ g : Nat, g ≤ 60 → nI 0 - 1 < nI g := by decide
      exact hx g hg
    constructor
    · rintro ⟨h1, h2, h3⟩
      exact absurd this h3
    · rintro ⟨h1, h2, h3⟩
      omega
  · rw [show nI (bN V i) - 1 = nI (bN V i - 1) from zI_sub (b := 1) (by omega), nI_lt_iff (by omega) (by omega)]
    constructor
    · rintro ⟨h1, h2, h3⟩
      exact ⟨h1, by omega, by omega⟩
    · rintro ⟨h1, h2, h3⟩
      exact ⟨h1, by omega, by omega⟩
/-- lists that are put together -/
def zap (p : Nat → Bool) (L : Nat → List Int32) (n : Nat) (l : List Int32) : List Int32 := zfo (fun i l => if p i = true then l ++ L i else l) 0 n l
theorem zap_none {p : Nat → Bool} {L : Nat → List Int32} {l : List Int32} : ∀ n, (∀ i, i < n → p i = false) → zap p L n l = l
  | 0, _ => rfl
  | n + 1, h => by
    have ih := zap_none (L := L) (l := l) n (fun i hi => h i (by omega))
    unfold zap at ih ⊢
    rw [zfo_last, ih, Nat.zero_add, h n (by omega)]
    rfl
theorem zap_one {p : Nat → Bool} {L : Nat → List Int32} {l : List Int32} {m : Nat} (hm : p m = true) : ∀ n, m < n → (∀ i, i < n → i ≠ m → p i = false) → zap p L n l = l ++ L m
  | 0, hn, _ => absurd hn (Nat.not_lt_zero _)
  | n + 1, hn, h => by
    by_cases e : n = m
    · subst e
      have ih := zap_none (p := p) (L := L) (l := l) n (fun i hi => h i (by omega) (by omega))
      unfold zap at ih ⊢
      rw [zfo_last, ih, Nat.zero_add, hm]
      rfl
    · have ih := zap_one (L := L) (l := l) hm n (by omega) (fun i hi => h i (by omega))
      unfold zap at ih ⊢
      rw [zfo_last, ih, Nat.zero_add, h n (by omega) e]
      rfl
theorem zap_len {p : Nat → Bool} {L : Nat → List Int32} {l : List Int32} : ∀ n, (zap p L n l).length = l.length + zsm (fun i => if p i = true then (L i).length else 0) n
  | 0 => rfl
  | n + 1 => by
    have ih := zap_len (p := p) (L := L) (l := l) n
    unfold zap at ih ⊢
    rw [zfo_last, Nat.zero_add]
    unfold zsm
    by_cases h : p n = true
    · rw [if_pos h, if_pos h, List.length_append, ih]
      omega
    · rw [if_neg h, if_neg h, ih]
      omega
theorem sWr_zap {V : Nat → Nat → Int32} {Lt : Nat → List Int32} {U : Nat → Int32} {g k : Int32} {n : Nat} {l : List Int32} : sWr V Lt U g k n l = zap (pWr V U g k) Lt n l := rfl
theorem sGp_len {T : Nat → Int32} {V : Nat → Nat → Int32} {Lt : Nat → List Int32} {U : Nat → Int32} {n t g : Nat} {l : List Int32} : (sGp T V Lt U n t g l).length = l.length + (zsm (fun i => if pWr V U (nI g) 1 i = true then (Lt i).length else 0) n + zsm (fun i => if pWr V U (nI g) 2 i = true then (Lt i).length else 0) n + if (decide (g < t) && !(sLo V U n (nI g))) = true then 1 else 0) := by
  unfold sGp
  split
  · rw [List.length_append, sWr_zap, sWr_zap, zap_len, zap_len]
    show _ + 1 = _
    omega
  · rw [sWr_zap, sWr_zap, zap_len, zap_len]
    omega
theorem sPr_len {T : Nat → Int32} {V : Nat → Nat → Int32} {Lt : Nat → List Int32} {U : Nat → Int32} {n t : Nat} : ∀ k, (zfo (sGp T V Lt U n t) 0 k []).length = zsm (fun g => zsm (fun i => if pWr V U (nI g) 1 i = true then (Lt i).length else 0) n + zsm (fun i => if pWr V U (nI g) 2 i = true then (Lt i).length else 0) n + if (decide (g < t) && !(sLo V U n (nI g))) = true then 1 else 0) k
  | 0 => rfl
  | k + 1 => by
    rw [zfo_last, sGp_len, sPr_len k, Nat.zero_add]
    rfl
theorem zsm_s {f : Nat → Nat} {n : Nat} : zsm f (n + 1) = zsm f n + f n := rfl
theorem i32_lc (a b c : Int32) : a + (b + c) = b + (a + c) := by rw [← Int32.add_assoc, Int32.add_comm a b, Int32.add_assoc]
theorem zsm_0 : ∀ n, zsm (fun _ => 0) n = 0
  | 0 => rfl
  | n + 1 => by
    unfold zsm
    rw [zsm_0 n]
theorem zsm_comm {f : Nat → Nat → Nat} {n : Nat} : ∀ m, zsm (fun g => zsm (fun i => f g i) n) m = zsm (fun i => zsm (fun g => f g i) m) n
  | 0 => by
    show 0 = zsm (fun _ => 0) n
    rw [zsm_0]
  | m + 1 => by
    show zsm (fun g => zsm (fun i => f g i) n) m + zsm (fun i => f m i) n = zsm (fun i => zsm (fun g => f g i) m + f m i) n
    rw [zsm_comm m, ← zsm_add]
/-- a sum of which one place alone counts -/
theorem zsm_at1 {c x : Nat} : ∀ n, zsm (fun g => if g = x then c else 0) n = if x < n then c else 0
  | 0 => by rw [if_neg (Nat.not_lt_zero _)]; rfl
  | n + 1 => by
    unfold zsm
    rw [zsm_at1 n]
    by_cases h : x < n
    · rw [if_pos h, if_neg (by omega), if_pos (by omega), Nat.add_zero]
    · rw [if_neg h]
      by_cases e : n = x
      · rw [if_pos e, if_pos (by omega)]
        omega
      · rw [if_neg e, if_neg (by omega)]
/-- places between two -/
theorem zsm_in {a b : Nat} : ∀ n, zsm (fun g => if a ≤ g ∧ g < b then 1 else 0) n = min n b - a
  | 0 => by
    unfold zsm
    omega
  | n + 1 => by
    unfold zsm
    rw [zsm_in n]
    by_cases h : a ≤ n ∧ n < b
    · rw [if_pos h]
      omega
    · rw [if_neg h]
      omega
/-- what marks put in -/
theorem sPr_put {t n : Nat} {V : Nat → Nat → Int32} {Lt : Nat → List Int32} {U : Nat → Int32} (ht : t ≤ 60) (hw : ∀ i, i < n → wM t V i) (hL : ∀ i, i < n → (Lt i).length = pN V i) : zsm (fun g => zsm (fun i => if pWr V U (nI g) 1 i = true then (Lt i).length else 0) n + zsm (fun i => if pWr V U (nI g) 2 i = true then (Lt i).length else 0) n) (t + 1) = zsm (fun i => if U i ≠ 0 then pN V i else 0) n := by
  have h1 : zsm (fun g => zsm (fun i => if pWr V U (nI g) 1 i = true then (Lt i).length else 0) n + zsm (fun i => if pWr V U (nI g) 2 i = true then (Lt i).length else 0) n) (t + 1) = zsm (fun g => zsm (fun i => if g = aN V i then (if U i ≠ 0 then pN V i else 0) else 0) n) (t + 1) := by
    refine zsm_at (fun g hg => ?_)
    rw [← zsm_add]
    refine zsm_at (fun i hi => ?_)
    have q1 := pWr_iff (U := U) (g := g) (k := 1) (hw i hi) ht (by omega) (by decide)
    have q2 := pWr_iff (U := U) (g := g) (k := 2) (hw i hi) ht (by omega) (by decide)
    have q1 : pWr V U (nI g) 1 i = true ↔ U i ≠ 0 ∧ kN V i = 1 ∧ aN V i = g := q1
    have q2 : pWr V U (nI g) 2 i = true ↔ U i ≠ 0 ∧ kN V i = 2 ∧ aN V i = g := q2
    obtain ⟨-, -, -, -, i5, -, -, -, -, i10⟩ := wM_N (hw i hi) ht
    by_cases hU : U i ≠ 0
    · by_cases hga : g = aN V i
      · rw [if_pos hga, if_pos hU]
        by_cases k1 : kN V i = 1
        · rw [if_pos (q1.mpr ⟨hU, k1, hga.symm⟩), if_neg (fun z => by have := (q2.mp z).2.1; omega), hL i hi]
          omega
        · by_cases k2 : kN V i = 2
          · rw [if_neg (fun z => k1 (q1.mp z).2.1), if_pos (q2.mpr ⟨hU, k2, hga.symm⟩), hL i hi]
            omega
          · rw [if_neg (fun z => k1 (q1.mp z).2.1), if_neg (fun z => k2 (q2.mp z).2.1), i10 (by omega)]
      · rw [if_neg hga, if_neg (fun z => hga (q1.mp z).2.2.symm), if_neg (fun z => hga (q2.mp z).2.2.symm)]
    · rw [if_neg (fun z => hU (q1.mp z).1), if_neg (fun z => hU (q2.mp z).1), if_neg hU]
      split <;> rfl
  rw [h1, zsm_comm]
  refine zsm_at (fun i hi => ?_)
  rw [zsm_at1, if_pos]
  have := wM_N (hw i hi) ht
  omega
/-- an editor sees at most 180 letters -/
theorem sPr_180 {T : Nat → Int32} {t n : Nat} {V : Nat → Nat → Int32} {Lt : Nat → List Int32} {U : Nat → Int32} (ht : t ≤ 60) (hn : n ≤ 20) (hw : ∀ i, i < n → wM t V i) (hL : ∀ i, i < n → (Lt i).length = pN V i) : (sPr T V Lt U n t).length ≤ 180 := by
  unfold sPr
  rw [sPr_len, zsm_add, sPr_put ht hw hL]
  have h1 : zsm (fun i => if U i ≠ 0 then pN V i else 0) n ≤ n * 6 := zsm_le (fun i hi => by
    have := wM_N (hw i hi) ht
    split <;> omega)
  have h2 : zsm (fun g => if (decide (g < t) && !(sLo V U n (nI g))) = true then 1 else 0) (t + 1) ≤ t := by
    have h3 : zsm (fun g => if (decide (g < t) && !(sLo V U n (nI g))) = true then 1 else 0) (t + 1) = zsm (fun g => if (decide (g < t) && !(sLo V U n (nI g))) = true then 1 else 0) t + 0 := by
      show _ + (if (decide (t < t) && _) = true then 1 else 0) = _
      rw [decide_eq_false (Nat.lt_irrefl t)]
      rfl
    rw [h3]
    have h4 := zsm_le (f := fun g => if (decide (g < t) && !(sLo V U n (nI g))) = true then 1 else 0) (b := 1) (n := t) (fun i hi => by split <;> omega)
    omega
  omega
/-- a letter is left out by one mark at most -/
theorem sLo_sum {t n : Nat} {V : Nat → Nat → Int32} {U : Nat → Int32} {g : Nat} (hu : okU t n V U) (hg : g < t) : (if sLo V U n (nI g) = true then 1 else 0) = zsm (fun i => if U i ≠ 0 ∧ aN V i ≤ g ∧ g < bN V i then 1 else 0) n := by
  obtain ⟨ht, hw, hc⟩ := hu
  have hg6 : g ≤ 60 := by omega
  by_cases h : sLo V U n (nI g) = true
  · rw [if_pos h]
    obtain ⟨m, -, hm, hp⟩ := (zan_true n 0).mp h
    have hm : m < n := by omega
    have q := (pLo_iff (hw m hm) ht hg6).mp hp
    have e : zsm (fun i => if U i ≠ 0 ∧ aN V i ≤ g ∧ g < bN V i then 1 else 0) n = zsm (fun i => if i = m then 1 else 0) n := by
      refine zsm_at (fun i hi => ?_)
      by_cases e : i = m
      · rw [if_pos e, e, if_pos q]
      · rw [if_neg e, if_neg]
        rintro ⟨z1, z2, z3⟩
        have wi := wM_N (hw i hi) ht
        have wm := wM_N (hw m hm) ht
        have hx := (sC_no (hw i hi) (hw m hm) ht (hc i m hi hm e z1 q.1)).2.2 (by omega) (by omega)
        omega
    rw [e, zsm_at1, if_pos hm]
  · rw [if_neg h]
    have hno : ∀ i, i < n → ¬ (U i ≠ 0 ∧ aN V i ≤ g ∧ g < bN V i) := by
      intro i hi z
      refine h ((zan_true n 0).mpr ⟨i, Nat.zero_le _, by omega, (pLo_iff (hw i hi) ht hg6).mpr z⟩)
    rw [zsm_at (g := fun _ => 0) (fun i hi => if_neg (hno i hi)), zsm_0]
/-- how long the print is -/
theorem sPr_sum {T : Nat → Int32} {t n : Nat} {V : Nat → Nat → Int32} {Lt : Nat → List Int32} {U : Nat → Int32} (hu : okU t n V U) (hL : ∀ i, i < n → (Lt i).length = pN V i) : (sPr T V Lt U n t).length + zsm (fun i => if U i ≠ 0 then bN V i - aN V i else 0) n = t + zsm (fun i => if U i ≠ 0 then pN V i else 0) n := by
  obtain ⟨ht, hw, hc⟩ := id hu
  unfold sPr
  rw [sPr_len, zsm_add, sPr_put ht hw hL]
  have h3 : zsm (fun g => if (decide (g < t) && !(sLo V U n (nI g))) = true then 1 else 0) (t + 1) = zsm (fun g => if (decide (g < t) && !(sLo V U n (nI g))) = true then 1 else 0) t := by
    show _ + (if (decide (t < t) && _) = true then 1 else 0) = _
    rw [decide_eq_false (Nat.lt_irrefl t)]
    rfl
  have h4 : zsm (fun g => if (decide (g < t) && !(sLo V U n (nI g))) = true then 1 else 0) t + zsm (fun g => if sLo V U n (nI g) = true then 1 else 0) t = t := by
    rw [← zsm_add]
    have h5 : zsm (fun g => (if (decide (g < t) && !(sLo V U n (nI g))) = true then 1 else 0) + (if sLo V U n (nI g) = true then 1 else 0)) t = zsm (fun g => if 0 ≤ g ∧ g < t then 1 else 0) t := by
      refine zsm_at (fun g hg => ?_)
      rw [decide_eq_true hg, if_pos (show 0 ≤ g ∧ g < t from ⟨Nat.zero_le _, hg⟩)]
      cases sLo V U n (nI g) <;> rfl
    rw [h5, zsm_in]
    omega
  have h6 : zsm (fun g => if sLo V U n (nI g) = true then 1 else 0) t = zsm (fun i => if U i ≠ 0 then bN V i - aN V i else 0) n := by
    rw [zsm_at (fun g hg => sLo_sum hu hg), zsm_comm]
    refine zsm_at (fun i hi => ?_)
    have wi := wM_N (hw i hi) ht
    by_cases hU : U i ≠ 0
    · rw [if_pos hU, zsm_at (g := fun g => if aN V i ≤ g ∧ g < bN V i then 1 else 0) (fun g hg => by
        by_cases z : aN V i ≤ g ∧ g < bN V i
        · rw [if_pos z, if_pos ⟨hU, z⟩]
        · rw [if_neg z, if_neg (fun y => z y.2)]), zsm_in]
      omega
    · rw [if_neg hU, zsm_at (g := fun _ => 0) (fun g hg => if_neg (fun y => hU y.1)), zsm_0]
  omega
/-- the print's length as the class and the reference count it -/
theorem sGs_num {t n : Nat} {V : Nat → Nat → Int32} (ht : t ≤ 60) (hw : ∀ i, i < n → wM t V i) : ∀ k, k ≤ n → sGs V k (nI t) = nI (t + zsm (fun i => if zb (decide (V 5 i = 1)) ≠ 0 then pN V i else 0) k) - nI (zsm (fun i => if zb (decide (V 5 i = 1)) ≠ 0 then bN V i - aN V i else 0) k)
  | 0, _ => by
    show nI t = nI (t + 0) - nI 0
    rw [Nat.add_zero, show nI 0 = (0 : Int32) from nI_0, Int32.sub_zero]
  | k + 1, hk => by
    have ih := sGs_num ht hw k (by omega)
    obtain ⟨-, i2, i3, i4, -, i6, -⟩ := wM_N (hw k (by omega)) ht
    rw [sGs_S, ih, zsm_s, zsm_s]
    by_cases h : V 5 k = 1
    · rw [if_pos h, if_pos (by rw [decide_eq_true h]; decide), if_pos (by rw [decide_eq_true h]; decide)]
      unfold sG
      rw [i2, i3, i4, zI_sub i6, ← Nat.add_assoc, zI_add (t + zsm _ k), zI_add (zsm _ k) (bN V k - aN V k)]
      simp only [Int32.sub_eq_add_neg, Int32.neg_add]
      simp only [Int32.add_assoc, i32_lc, Int32.add_comm]
    · rw [if_neg h, if_neg (by rw [decide_eq_false h]; decide), if_neg (by rw [decide_eq_false h]; decide)]
      rfl
theorem sPr_num {T : Nat → Int32} {t n : Nat} {V : Nat → Nat → Int32} {Lt : Nat → List Int32} (hu : okU t n V (fun i => zb (decide (V 5 i = 1)))) (hL : ∀ i, i < n → (Lt i).length = pN V i) : sGs V n (nI t) = nI (sPr T V Lt (fun i => zb (decide (V 5 i = 1))) n t).length := by
  rw [sGs_num hu.1 hu.2.1 n (Nat.le_refl n), ← sPr_sum (T := T) hu hL, zI_add]
  exact Int32.add_sub_cancel _ _
