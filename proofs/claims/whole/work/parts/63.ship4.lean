/-! the class's carryOver -/
/-- twins: put in at one gap, in one ink -/
def twin (V : Nat → Nat → Int32) (i j : Nat) : Bool := decide (V 1 i = 1) && (decide (V 1 j = 1) && (decide (V 0 j = V 0 i) && decide (V 2 j = V 2 i)))
/-- those that are kept, of the first ones -/
def kL (st : Nat → Bool) (tw : Nat → Nat → Bool) : Nat → List Nat
  | 0 => []
  | i + 1 => if (st i && !((kL st tw i).any (tw i))) = true then kL st tw i ++ [i] else kL st tw i
def kp (st : Nat → Bool) (tw : Nat → Nat → Bool) (i : Nat) : Bool := st i && !((kL st tw i).any (tw i))
theorem kL_s {st : Nat → Bool} {tw : Nat → Nat → Bool} {i : Nat} : kL st tw (i + 1) = if kp st tw i = true then kL st tw i ++ [i] else kL st tw i := rfl
theorem kL_mem {st : Nat → Bool} {tw : Nat → Nat → Bool} {j : Nat} : ∀ n, j ∈ kL st tw n ↔ j < n ∧ kp st tw j = true
  | 0 => by
    show j ∈ [] ↔ _
    simp
  | n + 1 => by
    have ih := kL_mem (st := st) (tw := tw) (j := j) n
    rw [kL_s]
    by_cases h : kp st tw n = true
    · rw [if_pos h, List.mem_append, ih, List.mem_singleton]
      constructor
      · rintro (⟨a, b⟩ | rfl)
        · exact ⟨by omega, b⟩
        · exact ⟨Nat.lt_succ_self _, h⟩
      · rintro ⟨a, b⟩
        by_cases e : j = n
        · exact Or.inr e
        · exact Or.inl ⟨by omega, b⟩
    · rw [if_neg h, ih]
      constructor
      · rintro ⟨a, b⟩
        exact ⟨by omega, b⟩
      · rintro ⟨a, b⟩
        refine ⟨?_, b⟩
        rcases Nat.lt_or_ge j n with z | z
        · exact z
        · exact absurd b (by rw [show j = n by omega]; exact h)
theorem kL_len {st : Nat → Bool} {tw : Nat → Nat → Bool} : ∀ n, (kL st tw n).length ≤ n
  | 0 => Nat.le_refl _
  | n + 1 => by
    have ih := kL_len (st := st) (tw := tw) n
    rw [kL_s]
    split
    · rw [List.length_append, List.length_singleton]
      omega
    · omega
theorem kL_filter {st : Nat → Bool} {tw : Nat → Nat → Bool} : ∀ n, kL st tw n = (List.range n).filter (kp st tw)
  | 0 => rfl
  | n + 1 => by
    rw [kL_s, List.range_succ, List.filter_append, ← kL_filter n]
    by_cases h : kp st tw n = true
    · rw [if_pos h, List.filter_cons_of_pos h]
      rfl
    · rw [if_neg h, List.filter_cons_of_neg h]
      simp
theorem kL_lt {st : Nat → Bool} {tw : Nat → Nat → Bool} {n r : Nat} (h : r < (kL st tw n).length) : (kL st tw n).getD r 0 < n ∧ kp st tw ((kL st tw n).getD r 0) = true := by
  have h1 : (kL st tw n).getD r 0 ∈ kL st tw n := by
    rw [List.getD_eq_getElem?_getD, List.getElem?_eq_getElem h]
    exact List.getElem_mem h
  exact (kL_mem n).mp h1
theorem kL_inj {st : Nat → Bool} {tw : Nat → Nat → Bool} {n r q : Nat} (hr : r < (kL st tw n).length) (hq : q < (kL st tw n).length) (hrq : r ≠ q) : (kL st tw n).getD r 0 ≠ (kL st tw n).getD q 0 := by
  have hd : (kL st tw n).Nodup := by
    rw [kL_filter]
    exact List.Pairwise.filter _ List.nodup_range
  rw [List.getD_eq_getElem?_getD, List.getD_eq_getElem?_getD, List.getElem?_eq_getElem hr, List.getElem?_eq_getElem hq]
  intro z
  exact hrq ((List.getElem_inj hd).mp z)
theorem getD_app {l : List Nat} {x r : Nat} : (l ++ [x]).getD r 0 = if r = l.length then x else l.getD r 0 := by
  by_cases h : r < l.length
  · rw [if_neg (by omega), List.getD_eq_getElem?_getD, List.getElem?_append_left h, List.getD_eq_getElem?_getD]
  · by_cases e : r = l.length
    · rw [if_pos e, e]
      simp
    · rw [if_neg e, List.getD_eq_getElem?_getD, List.getD_eq_getElem?_getD, List.getElem?_eq_none (by rw [List.length_append, List.length_singleton]; omega), List.getElem?_eq_none (by omega)]
/-- is there one, in a row that holds a list -/
theorem zan_list {p q : Nat → Bool} {l : List Nat} (h : ∀ r, r < l.length → p r = q (l.getD r 0)) : zan p 0 l.length = l.any q := by
  apply Bool.eq_iff_iff.mpr
  rw [zan_true, List.any_eq_true]
  constructor
  · rintro ⟨j, -, hj, hp⟩
    have hj : j < l.length := by omega
    refine ⟨l.getD j 0, ?_, by rw [← h j hj]; exact hp⟩
    rw [List.getD_eq_getElem?_getD, List.getElem?_eq_getElem hj]
    exact List.getElem_mem hj
  · rintro ⟨x, hx, hq⟩
    obtain ⟨j, hj, e⟩ := List.getElem_of_mem hx
    refine ⟨j, Nat.zero_le _, by omega, ?_⟩
    rw [h j hj, List.getD_eq_getElem?_getD, List.getElem?_eq_getElem hj]
    show q l[j] = true
    rw [e]
    exact hq
theorem zif_iff {α : Type} {p q : Prop} {hp : Decidable p} {hq : Decidable q} {a b : α} (h : p ↔ q) : (if p then a else b) = if q then a else b := by
  by_cases z : p
  · rw [if_pos z, if_pos (h.mp z)]
  · rw [if_neg z, if_neg (fun y => z (h.mpr y))]
theorem zlt_s {i q : Nat} {P : Prop} (h : i ≠ q) : i < q ∧ P ↔ i < q + 1 ∧ P := ⟨fun z => ⟨by omega, z.2⟩, fun z => ⟨by omega, z.2⟩⟩
theorem zlt_no {i : Nat} {P : Prop} : ¬ (i < i ∧ P) := fun z => Nat.lt_irrefl _ z.1
/-- behind the first loop -/
def gQ (V : Nat → Nat → Int32) (n q : Nat) (I K : Nat → Nat → Int32) : Prop := (∀ t, t ≠ 8 → t ≠ 9 → t ≠ 10 → K t = I t) ∧ ∀ i, (K 8 i = if i < q ∧ stay V n i = true then nI (nA V n i) else I 8 i) ∧ (K 9 i = if i < q ∧ stay V n i = true then nI (nB V n i) else I 9 i) ∧ (K 10 i = if i < q ∧ I 10 i = 0 ∧ stay V n i = false then 2 else I 10 i)
theorem gQ_aEq {V : Nat → Nat → Int32} {n q : Nat} {I K : Nat → Nat → Int32} (h : gQ V n q I K) (hv : vEq (vC I 6) V n) : aEq V (vC K 6) n := by
  intro i hi
  obtain ⟨h0, h1⟩ := h
  obtain ⟨a1, a2, a3⟩ := h1 i
  have e5 : I 10 i = V 5 i := hv i 5 hi (by decide)
  refine ⟨?_, fun h5 w hw => ?_⟩
  · show K 10 i = 1 ↔ _
    rw [a3, e5]
    by_cases c : i < q ∧ V 5 i = 0 ∧ stay V n i = false
    · rw [if_pos c, c.2.1]
      decide
    · rw [if_neg c]
  · have hs : stay V n i = false := by
      unfold stay
      rw [h5]
      rfl
    rw [hs] at a1 a2
    rw [if_neg (fun z => by cases z.2)] at a1 a2
    have hw5 : w = 0 ∨ w = 1 ∨ w = 2 ∨ w = 3 ∨ w = 4 := by omega
    rcases hw5 with rfl | rfl | rfl | rfl | rfl
    · exact (congrFun (h0 6 (by decide) (by decide) (by decide)) i).trans (hv i 0 hi (by decide))
    · exact (congrFun (h0 7 (by decide) (by decide) (by decide)) i).trans (hv i 1 hi (by decide))
    · exact a1.trans (hv i 2 hi (by decide))
    · exact a2.trans (hv i 3 hi (by decide))
    · exact (congrFun (h0 11 (by decide) (by decide) (by decide)) i).trans (hv i 4 hi (by decide))
theorem gQ_row {V : Nat → Nat → Int32} {n q : Nat} {I K : Nat → Nat → Int32} (h : gQ V n q I K) (hv : vEq (vC I 6) V n) (hq : q < n) {w : Nat} (hw : w < 6) : vC K 6 w q = V w q := by
  obtain ⟨h0, h1⟩ := h
  obtain ⟨a1, a2, a3⟩ := h1 q
  rw [if_neg (fun z => Nat.lt_irrefl _ z.1)] at a1 a2 a3
  have hw5 : w = 0 ∨ w = 1 ∨ w = 2 ∨ w = 3 ∨ w = 4 ∨ w = 5 := by omega
  rcases hw5 with rfl | rfl | rfl | rfl | rfl | rfl
  · exact (congrFun (h0 6 (by decide) (by decide) (by decide)) q).trans (hv q 0 hq (by decide))
  · exact (congrFun (h0 7 (by decide) (by decide) (by decide)) q).trans (hv q 1 hq (by decide))
  · exact a1.trans (hv q 2 hq (by decide))
  · exact a2.trans (hv q 3 hq (by decide))
  · exact (congrFun (h0 11 (by decide) (by decide) (by decide)) q).trans (hv q 4 hq (by decide))
  · exact a3.trans (hv q 5 hq (by decide))
section S4
variable {X : Nat × (Nat → Int32)} {I : Nat → Nat → Int32}
/-- carryGaps -/
theorem c30 {t n q : Nat} {V K : Nat → Nat → Int32} (hn : n ≤ 20) (hs : I 5 7 = nI n) (hu : okU t n V (fun i => zb (decide (V 5 i = 1)))) (hv : vEq (vC I 6) V n) (h : gQ V n q I K) (hq : q < n) (h5 : V 5 q = 0) : ∃ K', zr X 30 0 [.ref 5, .int (nI q), .null] [] (zk K) = some (none, zk K') ∧ gQ V n (q + 1) I K' := by
  have ht := hu.1
  have hK5 : K 5 7 = nI n := by rw [h.1 5 (by decide) (by decide) (by decide)]; exact hs
  have hae := gQ_aEq h hv
  have hrow := fun {w : Nat} => gQ_row h hv hq (w := w)
  have hq0 := zin_nI (show q < 20 by omega) (show (20 : Nat) < 2 ^ 31 by decide)
  have ez : zx (nI q) = q := zx_nI (by omega)
  have hany : sAny (vC K 6) n q 1 = sAny V n q 1 := aEq_sAny hae (fun w hw => hrow (by omega))
  have e8 : K 8 q = V 2 q := hrow (w := 2) (by decide)
  have e9 : K 9 q = V 3 q := hrow (w := 3) (by decide)
  have e7 : K 7 q = V 1 q := hrow (w := 1) (by decide)
  have e10 : I 10 q = 0 := (hv q 5 hq (by decide)).trans h5
  obtain ⟨w1, w2, w3, w4, w5, w6, w7, -⟩ := wM_N (hu.2.1 q hq) ht
  obtain ⟨h0, h1⟩ := h
  rw [k30_0, c16 hn hK5 (by omega), zcb_some, zn_one, hany, k30_6]
  by_cases a : sAny V n q 1 = true
  · have hst : stay V n q = false := by unfold stay; rw [a, Bool.not_true, Bool.and_false]
    rw [a, zb_t, if_neg (by decide), k30_9 hq0, ez]
    refine ⟨_, rfl, fun t t1 t2 t3 => (zs1_ne t3).trans (h0 t t1 t2 t3), fun i => ?_⟩
    obtain ⟨a1, a2, a3⟩ := h1 i
    rw [zs1_ne (show (8 : Nat) ≠ 10 by decide), zs1_ne (show (9 : Nat) ≠ 10 by decide), zs1_self, upd_at, a1, a2, a3]
    by_cases e : i = q
    · subst e
      exact ⟨(if_neg zlt_no).trans (if_neg (fun z => by rw [hst] at z; cases z.2)).symm, (if_neg zlt_no).trans (if_neg (fun z => by rw [hst] at z; cases z.2)).symm, (if_pos rfl).trans (if_pos ⟨Nat.lt_succ_self _, e10, hst⟩).symm⟩
    · rw [if_neg e]
      exact ⟨zif_iff (zlt_s e), zif_iff (zlt_s e), zif_iff (zlt_s e)⟩
  · rw [Bool.not_eq_true] at a
    have hst : stay V n q = true := by unfold stay; rw [a, h5]; rfl
    have hin := fun j hj h5 => stay_in ht hn hu.2.1 hst hq (j := j) hj h5
    have cB : sAh V n (nI (bN V q)) = nI (nB V n q) := sAh_cg hu w7 (fun j hj h5 => (hin j hj h5).2.1)
    have hfin : ∀ x y : Int32, x = nI (nA V n q) → y = nI (nB V n q) → gQ V n (q + 1) I (zs1 (zs1 K 8 q x) 9 q y) := by
      rintro x y rfl rfl
      refine ⟨fun t t1 t2 t3 => (zs1_ne t2).trans ((zs1_ne t1).trans (h0 t t1 t2 t3)), fun i => ?_⟩
      obtain ⟨a1, a2, a3⟩ := h1 i
      rw [zs1_ne (show (8 : Nat) ≠ 9 by decide), zs1_self, zs1_self, upd_at, upd_at, zs1_ne (show (10 : Nat) ≠ 9 by decide), zs1_ne (show (10 : Nat) ≠ 8 by decide), zs1_ne (show (9 : Nat) ≠ 8 by decide), a1, a2, a3]
      by_cases e : i = q
      · subst e
        exact ⟨(if_pos rfl).trans (if_pos ⟨Nat.lt_succ_self _, hst⟩).symm, (if_pos rfl).trans (if_pos ⟨Nat.lt_succ_self _, hst⟩).symm, (if_neg zlt_no).trans (if_neg (fun z => by rw [hst] at z; cases z.2.2)).symm⟩
      · rw [if_neg e, if_neg e]
        exact ⟨zif_iff (zlt_s e), zif_iff (zlt_s e), zif_iff (zlt_s e)⟩
    rw [a, zb_f, if_pos rfl, k30_17 hq0, ez, e9, w3, c32 hn hK5, aEq_sAh hae, cB, zcb_some, zn_one, k30_27 hq0, ez, e7, w1]
    by_cases k : kN V q = 1
    · rw [if_neg (by rw [k]; exact fun z => z rfl), k30_43 hq0 hq0, ez]
      exact ⟨_, rfl, hfin _ _ (by unfold nA; rw [if_pos k]) rfl⟩
    · have cA : sAh V n (nI (aN V q)) = nI (cg V n false (aN V q)) := sAh_cg hu (by omega) (fun j hj h5 => (hin j hj h5).1)
      have cT : sAt V n (nI (aN V q)) = nI (pat V n (aN V q)) := sAt_num ht (by omega) hu.2.1
      rw [if_pos (show ¬ nI (kN V q) = 1 from fun z => k ((nI_inj (b := 1) (by omega) (by decide)).mp z)), k30_47 hq0, ez, e8, w2, c32 hn hK5, aEq_sAh hae, cA, zcb_some]
      show ∃ K', zr X 30 57 [.ref 5, .int (nI q), .int (nI (nB V n q))] [.int (nI (cg V n false (aN V q))), .int (nI q), .ref 8] (zk K) = _ ∧ _
      rw [k30_57 hq0, ez, e8, w2, c33 hn hK5, aEq_sAt hae, cT, zcb_some]
      show ∃ K', zr X 30 67 [.ref 5, .int (nI q), .int (nI (nB V n q))] [.int (nI (pat V n (aN V q))), .int (nI (cg V n false (aN V q))), .int (nI q), .ref 8] (zk K) = _ ∧ _
      rw [k30_67 hq0 hq0, ez]
      exact ⟨_, rfl, hfin _ _ (by unfold nA; rw [if_neg k, cg_true, zI_add]) rfl⟩
/-- isPutInTwice -/
theorem c31 {m k : Nat} (hm : m < 20) (hk : k ≤ 20) : zr X 31 0 [.ref 5, .int (nI m), .int (nI k), .null] [] (zk I) = some (some (.int (zb (zan (twin (vC I 6) m) 0 k))), zk I) := by
  rw [k31_0]
  have hm0 := zin_nI hm (show (20 : Nat) < 2 ^ 31 by decide)
  have em : zx (nI m) = m := zx_nI (by omega)
  have h := zlook (F := fun i => zr X 31 2 [.ref 5, .int (nI m), .int (nI k), .int (nI i)] [] (zk I)) (n := k) (T := some (some (.int 1), zk I)) (E := some (some (.int 0), zk I)) (p := twin (vC I 6) m) ?_ ?_ k 0 (by omega)
  · rw [nI_0] at h
    rw [h]
    cases zan (twin (vC I 6) m) 0 k <;> rfl
  · intro i hi
    have hi0 := zin_nI (show i < 20 by omega) (show (20 : Nat) < 2 ^ 31 by decide)
    have ei : zx (nI i) = i := zx_nI (by omega)
    have hT : twin (vC I 6) m i = (decide (I 7 m = 1) && (decide (I 7 i = 1) && (decide (I 6 i = I 6 m) && decide (I 8 i = I 8 m)))) := rfl
    rw [k31_2, if_neg (nI_ge hi (by omega)), k31_7 hm0, em, hT]
    by_cases b1 : I 7 m = 1
    · rw [if_neg (fun z => z b1), k31_17 hi0, ei]
      by_cases b2 : I 7 i = 1
      · rw [if_neg (fun z => z b2), k31_27 hi0 hm0, ei, em]
        by_cases b3 : I 6 i = I 6 m
        · rw [if_neg (fun z => z b3), k31_42 hi0 hm0, ei, em]
          by_cases b4 : I 8 i = I 8 m
          · rw [if_neg (fun z => z b4), k31_57]
            simp [b1, b2, b3, b4]
          · rw [if_pos b4, k31_59, ← nI_succ]
            simp [b4]
        · rw [if_pos b3, k31_59, ← nI_succ]
          simp [b3]
      · rw [if_pos b2, k31_59, ← nI_succ]
        simp [b2]
    · rw [if_pos b1, k31_59, ← nI_succ]
      simp [b1]
  · rw [k31_2, if_pos (nI_le (Nat.le_refl _) (by omega)), k31_65]
/-- carryOver, its first loop -/
theorem c29a {t n : Nat} {V : Nat → Nat → Int32} (hn : n ≤ 20) (hs : I 5 7 = nI n) (hu : okU t n V (fun i => zb (decide (V 5 i = 1)))) (hv : vEq (vC I 6) V n) : ∃ K, zr X 29 0 [.ref 5, .null, .null] [] (zk I) = zr X 29 34 [.ref 5, .int 0, .int 0] [] (zk K) ∧ gQ V n n I K := by
  rw [k29_0]
  have h : ∀ k q K, q + k = n → gQ V n q I K → ∃ K', zr X 29 2 [.ref 5, .int (nI q), .null] [] (zk K) = zr X 29 34 [.ref 5, .int 0, .int 0] [] (zk K') ∧ gQ V n n I K' := by
    intro k
    induction k with
    | zero =>
      intro q K hq hg
      have e : q = n := by omega
      subst e
      exact ⟨K, by rw [k29_2, show K 5 7 = nI q by rw [hg.1 5 (by decide) (by decide) (by decide)]; exact hs, if_pos (nI_le (Nat.le_refl _) (by omega)), k29_30], hg⟩
    | succ k ih =>
      intro q K hq hg
      have hq2 : q < n := by omega
      have hK5 : K 5 7 = nI n := by rw [hg.1 5 (by decide) (by decide) (by decide)]; exact hs
      have e10 : K 10 q = V 5 q := gQ_row hg hv hq2 (w := 5) (by decide)
      rw [k29_2, hK5, if_neg (nI_ge hq2 (by omega)), k29_10 (zin_nI (by omega) (by decide)), zx_nI (by omega), e10]
      by_cases a : V 5 q = 0
      · obtain ⟨K', j1, j2⟩ := c30 (X := X) hn hs hu hv hg hq2 a
        rw [if_neg (fun z => z a), k29_19, j1, zcb_some, zn_nil, k29_24, ← nI_succ]
        exact ih (q + 1) K' (by omega) j2
      · rw [if_pos a, k29_24, ← nI_succ]
        refine ih (q + 1) K (by omega) ⟨hg.1, fun i => ?_⟩
        obtain ⟨a1, a2, a3⟩ := hg.2 i
        rw [a1, a2, a3]
        by_cases e : i = q
        · subst e
          have hst : stay V n i = false := by unfold stay; rw [decide_eq_false a, Bool.false_and]
          have h10 : ¬ I 10 i = 0 := by rw [show I 10 i = V 5 i from hv i 5 hq2 (by decide)]; exact a
          exact ⟨(if_neg zlt_no).trans (if_neg (fun z => by rw [hst] at z; cases z.2)).symm, (if_neg zlt_no).trans (if_neg (fun z => by rw [hst] at z; cases z.2)).symm, (if_neg zlt_no).trans (if_neg (fun z => h10 z.2.1)).symm⟩
        · exact ⟨zif_iff (zlt_s e), zif_iff (zlt_s e), zif_iff (zlt_s e)⟩
  have h1 := h n 0 I (by omega) ⟨fun _ _ _ _ => rfl, fun i => ⟨(if_neg (fun z => Nat.not_lt_zero _ z.1)).symm, (if_neg (fun z => Nat.not_lt_zero _ z.1)).symm, (if_neg (fun z => Nat.not_lt_zero _ z.1)).symm⟩⟩
  rw [nI_0] at h1
  exact h1
/-- rows that were moved up -/
def mvd (K J : Nat → Nat → Int32) (l : List Nat) (i : Nat) : Prop := (∀ t, t < 6 ∨ 12 < t → J t = K t) ∧ (∀ r w, w < 6 → r < l.length → vC J 6 w r = vC K 6 w (l.getD r 0)) ∧ (∀ r k, k < 6 → r < l.length → J 12 (6 * r + k) = K 12 (6 * l.getD r 0 + k)) ∧ (∀ r w, w < 6 → i ≤ r → vC J 6 w r = vC K 6 w r) ∧ ∀ r k, k < 6 → i ≤ r → J 12 (6 * r + k) = K 12 (6 * r + k)
theorem c29b {n : Nat} {st : Nat → Bool} {tw : Nat → Nat → Bool} (hn : n ≤ 20) (hs : I 5 7 = nI n) (hst : ∀ i, i < n → (I 10 i = 0 ↔ st i = true)) (htw : ∀ i j, i < n → j < n → st i = true → st j = true → twin (vC I 6) i j = tw i j) : ∃ J, zr X 29 34 [.ref 5, .int 0, .int 0] [] (zk I) = some (none, zk J) ∧ J 5 7 = nI (kL st tw n).length ∧ (∀ t, t < 5 ∨ 12 < t → J t = I t) ∧ (∀ r w, w < 6 → r < (kL st tw n).length → vC J 6 w r = vC I 6 w ((kL st tw n).getD r 0)) ∧ ∀ r k, k < 6 → r < (kL st tw n).length → J 12 (6 * r + k) = I 12 (6 * (kL st tw n).getD r 0 + k) := by
  have h : ∀ k i K, i + k = n → mvd I K (kL st tw i) i → ∃ J, zr X 29 34 [.ref 5, .int (nI (kL st tw i).length), .int (nI i)] [] (zk K) = some (none, zk J) ∧ J 5 7 = nI (kL st tw n).length ∧ (∀ t, t < 5 ∨ 12 < t → J t = I t) ∧ (∀ r w, w < 6 → r < (kL st tw n).length → vC J 6 w r = vC I 6 w ((kL st tw n).getD r 0)) ∧ ∀ r k, k < 6 → r < (kL st tw n).length → J 12 (6 * r + k) = I 12 (6 * (kL st tw n).getD r 0 + k) := by
    intro k
    induction k with
    | zero =>
      intro i K hi hm
      have e : i = n := by omega
      subst e
      have hK : K 5 7 = nI i := by rw [hm.1 5 (by decide)]; exact hs
      refine ⟨zs1 K 5 7 (nI (kL st tw i).length), ?_, ?_, fun t ht => ?_, fun r w hw hr => ?_, fun r k hk hr => ?_⟩
      · rw [k29_34, hK, if_pos (nI_le (Nat.le_refl _) (by omega)), k29_76]
      · rw [zs1_self, upd_at, if_pos rfl]
      · rw [zs1_ne (by omega)]
        exact hm.1 t (by omega)
      · have e5 : vC (zs1 K 5 7 (nI (kL st tw i).length)) 6 w r = vC K 6 w r := by
          have hw5 : w = 0 ∨ w = 1 ∨ w = 2 ∨ w = 3 ∨ w = 4 ∨ w = 5 := by omega
          rcases hw5 with rfl | rfl | rfl | rfl | rfl | rfl <;> exact congrFun (zs1_ne (by decide)) r
        rw [e5]
        exact hm.2.1 r w hw hr
      · rw [zs1_ne (by decide)]
        exact hm.2.2.1 r k hk hr
    | succ k ih =>
      intro i K hi hm
      have hi2 : i < n := by omega
      obtain ⟨m0, m1, m2, m3, m4⟩ := hm
      have hK : K 5 7 = nI n := by rw [m0 5 (by decide)]; exact hs
      have e10 : K 10 i = I 10 i := m3 i 5 (by decide) (Nat.le_refl _)
      have hlen := kL_len (st := st) (tw := tw) i
      rw [k29_34, hK, if_neg (nI_ge hi2 (by omega)), k29_42 (zin_nI (by omega) (by decide)), zx_nI (by omega), e10]
      have hskip : kp st tw i = false → ∃ J, zr X 29 70 [.ref 5, .int (nI (kL st tw i).length), .int (nI i)] [] (zk K) = some (none, zk J) ∧ J 5 7 = nI (kL st tw n).length ∧ (∀ t, t < 5 ∨ 12 < t → J t = I t) ∧ (∀ r w, w < 6 → r < (kL st tw n).length → vC J 6 w r = vC I 6 w ((kL st tw n).getD r 0)) ∧ ∀ r k, k < 6 → r < (kL st tw n).length → J 12 (6 * r + k) = I 12 (6 * (kL st tw n).getD r 0 + k) := by
        intro hk
        have e : kL st tw (i + 1) = kL st tw i := by rw [kL_s, hk]; rfl
        rw [k29_70, ← nI_succ, ← e]
        refine ih (i + 1) K (by omega) ?_
        rw [e]
        exact ⟨m0, m1, m2, fun r w hw hr => m3 r w hw (by omega), fun r k hk hr => m4 r k hk (by omega)⟩
      by_cases a : st i = true
      · rw [if_neg (fun z => z ((hst i hi2).mpr a)), k29_51, c31 (by omega) (by omega), zcb_some, zn_one]
        have hz : zan (twin (vC K 6) i) 0 (kL st tw i).length = (kL st tw i).any (tw i) := by
          refine zan_list (fun r hr => ?_)
          obtain ⟨l1, l2⟩ := kL_lt hr
          have l3 : st ((kL st tw i).getD r 0) = true := by
            unfold kp at l2
            rw [Bool.and_eq_true] at l2
            exact l2.1
          rw [← htw i _ hi2 (by omega) a l3]
          unfold twin
          rw [m1 r 0 (by decide) hr, m1 r 1 (by decide) hr, m1 r 2 (by decide) hr, m3 i 0 (by decide) (Nat.le_refl _), m3 i 1 (by decide) (Nat.le_refl _), m3 i 2 (by decide) (Nat.le_refl _)]
        rw [hz, k29_57]
        by_cases b : (kL st tw i).any (tw i) = true
        · rw [b, zb_t, if_pos (by decide)]
          exact hskip (by unfold kp; rw [b, Bool.not_true, Bool.and_false])
        · rw [Bool.not_eq_true] at b
          have hkp : kp st tw i = true := by unfold kp; rw [a, b]; rfl
          obtain ⟨J, j1, j2, j3, j4⟩ := c10 (X := X) (I := K) (show i < 20 by omega) (show (kL st tw i).length < 20 by omega)
          have e : kL st tw (i + 1) = kL st tw i ++ [i] := by rw [kL_s, hkp]; rfl
          have el : (kL st tw (i + 1)).length = (kL st tw i).length + 1 := by rw [e, List.length_append, List.length_singleton]
          rw [b, zb_f, if_neg (fun z => z rfl), k29_60, j1, zcb_some, zn_nil, k29_67, ← nI_succ, ← nI_succ, ← el]
          refine ih (i + 1) J (by omega) ⟨fun t ht => (j2 t ht).trans (m0 t ht), fun r w hw hr => ?_, fun r k hk hr => ?_, fun r w hw hr => ?_, fun r k hk hr => ?_⟩
          · rw [j3 r w hw, e, getD_app]
            by_cases z : r = (kL st tw i).length
            · rw [if_pos z, if_pos z]
              exact m3 i w hw (Nat.le_refl _)
            · rw [if_neg z, if_neg z]
              exact m1 r w hw (by omega)
          · rw [j4 r k hk, e, getD_app]
            by_cases z : r = (kL st tw i).length
            · rw [if_pos z, if_pos z]
              exact m4 i k hk (Nat.le_refl _)
            · rw [if_neg z, if_neg z]
              exact m2 r k hk (by omega)
          · rw [j3 r w hw, if_neg (by omega)]
            exact m3 r w hw (by omega)
          · rw [j4 r k hk, if_neg (by omega)]
            exact m4 r k hk (by omega)
      · rw [if_pos (fun z => a ((hst i hi2).mp z))]
        refine hskip ?_
        rw [Bool.not_eq_true] at a
        unfold kp
        rw [a]
        rfl
  have h1 := h n 0 I (by omega) ⟨fun _ _ => rfl, fun r w hw hr => absurd hr (Nat.not_lt_zero _), fun r k hk hr => absurd hr (Nat.not_lt_zero _), fun _ _ _ _ => rfl, fun _ _ _ _ => rfl⟩
  rw [nI_0] at h1
  exact h1
end S4
