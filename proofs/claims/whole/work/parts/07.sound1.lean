/-! THE PURE MACHINE IS SOUND, part 1: the world of a memory, and what each kind of access does to it -/
def zTT : List Cond := lw_tbl.filter goodWord
theorem zTT_mem {c : Cond} {w : Nat} (h : zw w c = true) (g : goodWord c = true) : c ∈ zTT := List.mem_filter.mpr ⟨List.mem_of_getElem? (of_decide_eq_true h), g⟩
theorem zTT_in {c : Cond} (h : c ∈ lw_tbl) (g : goodWord c = true) : c ∈ zTT := List.mem_filter.mpr ⟨h, g⟩
theorem zw_in {c : Cond} {w : Nat} (h : zw w c = true) : c ∈ lw_tbl := List.mem_of_getElem? (of_decide_eq_true h)
/-- the words of nest mates, and that of arrays of sheets: they are carried beside the others -/
def zNest (w : Cond) : Bool := match w with
  | .fieldLinkNest .. => true
  | .methodLinkNest .. => true
  | _ => false
def zNW (U : State) : Prop := (∀ w ∈ lw_tbl, zNest w = true → va_Nw w U) ∧ va_AO "FiveInks$Sheet" U
theorem zNW_same {u U : State} (h : u.vm = U.vm) (z : zNW u) : zNW U := by
  refine ⟨fun w hw hn => ?_, va_AO.moved (h ▸ Vm.Alike.refl u.vm) z.2⟩
  have h1 := z.1 w hw hn
  cases w <;> first | exact va_Nw.same rfl h h1 | cases hn
theorem zNW_warm {u U : State} (h : u.WarmedH U.vm) (z : zNW u) : zNW U := by
  refine ⟨fun w hw hn => ?_, va_AO.moved h.alike z.2⟩
  have h1 := z.1 w hw hn
  cases w <;> first | exact va_Nw.warmF h h1 | exact va_Nw.warmM h h1 | cases hn
abbrev zTy (cA : Nat → ClassId) : List (ClassId × FieldType) := [(cA 0, .int), (cA 1, .boolean), (cA 2, .object "FiveInks$Sheet")]
def zad (b h0 : Nat) (t : Nat) : Nat := if t = 0 then b else h0 + t
theorem zad_ne {b h0 t : Nat} (h : t ≠ 0) : zad b h0 t = h0 + t := if_neg h
def zv (b h0 : Nat) (v : Value) : Value := match v with
  | .ref k => .ref (zad b h0 k)
  | v => v
def zAf (h0 : Nat) : Nat → Prop := fun q => h0 < q
def zrf (h0 k : Nat) : Option Nat := if k = 0 then none else some (h0 + k)
def zfv (h0 : Nat) (c : Nat) (m : zM) (t k : Nat) : Value := if zFk c k = 2 then va_rf (zrf h0 (zRf m t k)) else .int (zI m t k)
def zent (cA : Nat → ClassId) (h0 : Nat) (m : zM) (t : Nat) : va_E := match zKi m t with
  | 0 => .inl (cA 0, zLe m t, .inl (zI m t))
  | 1 => .inl (cA 1, zLe m t, .inl (zI m t))
  | 2 => .inl (cA 2, zLe m t, .inr (.inr (.inr (.inr (fun j => zrf h0 (zRf m t j))))))
  | c + 3 => .inr (c, (List.range (zLe m t)).map (zfv h0 c m t))
def zwl (cA : Nat → ClassId) (h0 : Nat) (m : zM) : va_W := (List.range (m.2.1.length - 1)).map fun k => (h0 + (k + 1), zent cA h0 m (k + 1))
theorem zKi_lt {m : zM} {t c : Nat} (h : zKi m t = c) (hc : c ≠ 50) : t < m.2.1.length := by
  rcases Nat.lt_or_ge t m.2.1.length with q | q
  · exact q
  · unfold zKi at h
    rw [List.getD_eq_getElem?_getD, List.getElem?_eq_none q] at h
    exact absurd h.symm hc
theorem zwl_get {cA : Nat → ClassId} {h0 : Nat} {m : zM} {t c : Nat} (ht : t ≠ 0) (h : zKi m t = c) (hc : c ≠ 50) : (zwl cA h0 m)[t - 1]? = some (h0 + t, zent cA h0 m t) := by
  have h1 := zKi_lt h hc
  unfold zwl
  rw [List.getElem?_map, List.getElem?_range (by omega)]
  show some (h0 + (t - 1 + 1), zent cA h0 m (t - 1 + 1)) = _
  rw [show t - 1 + 1 = t by omega]
theorem zwl_D (cA : Nat → ClassId) (h0 : Nat) (m : zM) : va_D (zAf h0) (zwl cA h0 m) := by
  have hk : ∀ (k : Nat) (q : Nat × va_E), (zwl cA h0 m)[k]? = some q → q.1 = h0 + (k + 1) := by
    intro k q h
    unfold zwl at h
    rw [List.getElem?_map] at h
    cases e : (List.range (m.2.1.length - 1))[k]? with
    | none => rw [e] at h; cases h
    | some i =>
      rw [e] at h
      have hi : k = i := by
        have h2 := List.getElem?_eq_some_iff.mp e
        obtain ⟨h3, h4⟩ := h2
        simpa using h4
      have h5 := (Option.some.inj h).symm
      rw [h5, ← hi]
  refine ⟨fun i j p q hi hj e => ?_, fun k q h => ?_⟩
  · rw [hk i p hi, hk j q hj] at e
    omega
  · show h0 < q.1
    rw [hk k q h]
    omega
/-- a cell changes: the rest stays -/
theorem zwl_set {cA : Nat → ClassId} {h0 : Nat} {m m' : zM} {t : Nat} {e : va_E} (ht : t ≠ 0) (hl : m'.2.1.length = m.2.1.length) (he : zent cA h0 m' t = e) (ho : ∀ j, j ≠ t → zent cA h0 m' j = zent cA h0 m j) : (zwl cA h0 m).set (t - 1) (h0 + t, e) = zwl cA h0 m' := by
  apply List.ext_getElem?
  intro k
  unfold zwl
  rw [hl]
  by_cases hk : k < m.2.1.length - 1
  · rw [List.getElem?_map, List.getElem?_range hk]
    by_cases hq : t - 1 = k
    · rw [← hq, List.getElem?_set_self (by simp; omega)]
      show some (h0 + t, e) = some (h0 + (t - 1 + 1), zent cA h0 m' (t - 1 + 1))
      rw [show t - 1 + 1 = t by omega, he]
    · rw [List.getElem?_set_ne hq, List.getElem?_map, List.getElem?_range hk]
      show some (h0 + (k + 1), zent cA h0 m (k + 1)) = some (h0 + (k + 1), zent cA h0 m' (k + 1))
      rw [ho (k + 1) (by omega)]
  · rw [List.getElem?_eq_none (by simp; omega), List.getElem?_eq_none (by simp; omega)]
theorem zent_0 {cA : Nat → ClassId} {h0 : Nat} {m : zM} {t : Nat} (h : zKi m t = 0) : zent cA h0 m t = .inl (cA 0, zLe m t, .inl (zI m t)) := by unfold zent; rw [h]
theorem zent_1 {cA : Nat → ClassId} {h0 : Nat} {m : zM} {t : Nat} (h : zKi m t = 1) : zent cA h0 m t = .inl (cA 1, zLe m t, .inl (zI m t)) := by unfold zent; rw [h]
theorem zent_2 {cA : Nat → ClassId} {h0 : Nat} {m : zM} {t : Nat} (h : zKi m t = 2) : zent cA h0 m t = .inl (cA 2, zLe m t, .inr (.inr (.inr (.inr (fun j => zrf h0 (zRf m t j)))))) := by unfold zent; rw [h]
theorem zent_3 {cA : Nat → ClassId} {h0 : Nat} {m : zM} {t c : Nat} (h : zKi m t = c + 3) : zent cA h0 m t = .inr (c, (List.range (zLe m t)).map (zfv h0 c m t)) := by unfold zent; rw [h]
theorem zsI_ne {cA : Nat → ClassId} {h0 : Nat} {m : zM} {t j : Nat} {f : Nat → Int32} (h : j ≠ t) : zent cA h0 (zsI m t f) j = zent cA h0 m j := by
  have h1 : zI (zsI m t f) j = zI m j := by unfold zI zsI zup; exact if_neg h
  unfold zent
  rw [show zKi (zsI m t f) j = zKi m j from rfl, show zLe (zsI m t f) j = zLe m j from rfl, h1]
  split <;> first | rfl | skip
  congr 3
  funext k
  unfold zfv
  rw [h1]
  rfl
theorem zsI_self {m : zM} {t : Nat} {f : Nat → Int32} : zI (zsI m t f) t = f := by unfold zI zsI zup; exact if_pos rfl
theorem zsR_rf_ne {m : zM} {t k u j : Nat} (h : j ≠ t) : ∀ i, zRf (zsR m t k u) j i = zRf m j i := by
  intro i
  have e : (m.2.2.2.1.set t ((m.2.2.2.1.getD t []).set k u)).getD j [] = m.2.2.2.1.getD j [] := by
    rw [List.getD_eq_getElem?_getD, List.getElem?_set_ne (Ne.symm h), ← List.getD_eq_getElem?_getD]
  show ((m.2.2.2.1.set t ((m.2.2.2.1.getD t []).set k u)).getD j []).getD i 0 = _
  rw [e]
  rfl
theorem zsR_rf_self {m : zM} {t k u : Nat} (ht : t < m.2.2.2.1.length) (hk : k < (m.2.2.2.1.getD t []).length) : ∀ i, zRf (zsR m t k u) t i = if i = k then u else zRf m t i := by
  intro i
  unfold zRf zsR
  dsimp only
  rw [List.getD_eq_getElem?_getD (l := m.2.2.2.1.set t _), List.getElem?_set_self ht]
  show ((m.2.2.2.1.getD t []).set k u).getD i 0 = _
  rw [List.getD_eq_getElem?_getD]
  by_cases hi : i = k
  · rw [if_pos hi, hi, List.getElem?_set_self hk]
    rfl
  · rw [if_neg hi, List.getElem?_set_ne (fun q => hi q.symm), ← List.getD_eq_getElem?_getD]
theorem zsR_ne {cA : Nat → ClassId} {h0 : Nat} {m : zM} {t k u j : Nat} (h : j ≠ t) : zent cA h0 (zsR m t k u) j = zent cA h0 m j := by
  have h1 := zsR_rf_ne (m := m) (k := k) (u := u) h
  unfold zent
  rw [show zKi (zsR m t k u) j = zKi m j from rfl, show zLe (zsR m t k u) j = zLe m j from rfl, show zI (zsR m t k u) j = zI m j from rfl]
  split <;> first | rfl | skip
  · simp only [h1]
  · congr 3
    funext i
    unfold zfv
    rw [h1 i]
    rfl
/-- a new cell -/
theorem zwl_push {cA : Nat → ClassId} {h0 : Nat} {m : zM} {kd n : Nat} {e : va_E} (hw : zwf m = true) (he : zent cA h0 (zalloc m kd n) m.2.1.length = e) : zwl cA h0 m ++ [(h0 + m.2.1.length, e)] = zwl cA h0 (zalloc m kd n) := by
  unfold zwf at hw
  simp only [Bool.and_eq_true, decide_eq_true_eq] at hw
  obtain ⟨⟨w1, w2⟩, w3⟩ := hw
  have hl : (zalloc m kd n).2.1.length - 1 = (m.2.1.length - 1) + 1 := by
    show (m.2.1 ++ [kd]).length - 1 = _
    rw [List.length_append]
    simp
    omega
  unfold zwl
  rw [hl, List.range_succ, List.map_append]
  congr 1
  · apply List.map_congr_left
    intro k hk
    have hk : k < m.2.1.length - 1 := List.mem_range.mp hk
    have a1 : zKi (zalloc m kd n) (k + 1) = zKi m (k + 1) := by
      show (m.2.1 ++ [kd]).getD (k + 1) 50 = m.2.1.getD (k + 1) 50
      rw [List.getD_eq_getElem?_getD, List.getElem?_append_left (by omega), ← List.getD_eq_getElem?_getD]
    have a2 : zLe (zalloc m kd n) (k + 1) = zLe m (k + 1) := by
      show (m.2.2.1 ++ [n]).getD (k + 1) 0 = m.2.2.1.getD (k + 1) 0
      rw [List.getD_eq_getElem?_getD, List.getElem?_append_left (by omega), ← List.getD_eq_getElem?_getD]
    have a3 : ∀ i, zRf (zalloc m kd n) (k + 1) i = zRf m (k + 1) i := by
      intro i
      show ((m.2.2.2.1 ++ [List.replicate n 0]).getD (k + 1) []).getD i 0 = (m.2.2.2.1.getD (k + 1) []).getD i 0
      rw [List.getD_eq_getElem?_getD (l := m.2.2.2.1 ++ _), List.getElem?_append_left (by omega), ← List.getD_eq_getElem?_getD]
    have a4 : zI (zalloc m kd n) (k + 1) = zI m (k + 1) := by
      show zup m.2.2.2.2 m.2.1.length (fun _ => 0) (k + 1) = _
      exact if_neg (by omega)
    have a5 : zent cA h0 (zalloc m kd n) (k + 1) = zent cA h0 m (k + 1) := by
      unfold zent
      rw [a1, a2, a4]
      split <;> first | rfl | skip
      · simp only [a3]
      · congr 3
        funext i
        unfold zfv
        rw [a3 i, a4]
    rw [a5]
  · show [(h0 + m.2.1.length, e)] = [(h0 + (m.2.1.length - 1 + 1), zent cA h0 (zalloc m kd n) (m.2.1.length - 1 + 1))]
    rw [show m.2.1.length - 1 + 1 = m.2.1.length by omega, he]
theorem zalloc_facts {m : zM} {kd n : Nat} (hw : zwf m = true) : zKi (zalloc m kd n) m.2.1.length = kd ∧ zLe (zalloc m kd n) m.2.1.length = n ∧ (∀ i, zRf (zalloc m kd n) m.2.1.length i = 0) ∧ zI (zalloc m kd n) m.2.1.length = fun _ => 0 := by
  unfold zwf at hw
  simp only [Bool.and_eq_true, decide_eq_true_eq] at hw
  obtain ⟨⟨w1, w2⟩, w3⟩ := hw
  refine ⟨?_, ?_, fun i => ?_, ?_⟩
  · show (m.2.1 ++ [kd]).getD m.2.1.length 50 = kd
    simp
  · show (m.2.2.1 ++ [n]).getD m.2.1.length 0 = n
    rw [← w1]
    simp
  · show ((m.2.2.2.1 ++ [List.replicate n 0]).getD m.2.1.length []).getD i 0 = 0
    rw [← w2]
    simp only [List.getD_eq_getElem?_getD, List.getElem?_concat_length, Option.getD_some]
    cases e : (List.replicate n 0)[i]? with
    | none => rfl
    | some v => exact List.eq_of_mem_replicate (List.mem_of_getElem? e)
  · show zup m.2.2.2.2 m.2.1.length (fun _ => 0) m.2.1.length = _
    exact if_pos rfl
/-- the listed locals, those that nothing is known of left out -/
def zll (b h0 : Nat) : Nat → List Value → List (Nat × Value)
  | _, [] => []
  | k, v :: vs => if v = .null then zll b h0 (k + 1) vs else (k, zv b h0 v) :: zll b h0 (k + 1) vs
theorem zll_mem {b h0 : Nat} : ∀ (ls : List Value) (k j : Nat) (w : Value), (j, w) ∈ zll b h0 k ls ↔ k ≤ j ∧ ∃ v, ls[j - k]? = some v ∧ v ≠ .null ∧ w = zv b h0 v
  | [], k, j, w => by simp [zll]
  | v :: vs, k, j, w => by
    have ih := zll_mem (b := b) (h0 := h0) vs (k + 1) j w
    have key : (k + 1 ≤ j ∧ ∃ u, vs[j - (k + 1)]? = some u ∧ u ≠ .null ∧ w = zv b h0 u) ↔ (k < j ∧ ∃ u, (v :: vs)[j - k]? = some u ∧ u ≠ .null ∧ w = zv b h0 u) := by
      constructor
      · rintro ⟨h1, u, h2, h3⟩
        refine ⟨h1, u, ?_, h3⟩
        rw [show j - k = (j - (k + 1)) + 1 by omega]
        simpa using h2
      · rintro ⟨h1, u, h2, h3⟩
        refine ⟨h1, u, ?_, h3⟩
        rw [show j - k = (j - (k + 1)) + 1 by omega] at h2
        simpa using h2
    unfold zll
    by_cases hv : v = .null
    · rw [if_pos hv, ih, key]
      constructor
      · rintro ⟨h1, h2⟩
        exact ⟨Nat.le_of_lt h1, h2⟩
      · rintro ⟨h1, u, h2, h3, h4⟩
        rcases Nat.lt_or_ge k j with q | q
        · exact ⟨q, u, h2, h3, h4⟩
        · rw [show j - k = 0 by omega] at h2
          have : v = u := by simpa using h2
          exact absurd (this ▸ hv) h3
    · rw [if_neg hv, List.mem_cons, ih, key]
      constructor
      · rintro (h | ⟨h1, h2⟩)
        · cases h
          exact ⟨Nat.le_refl _, v, by simp, hv, rfl⟩
        · exact ⟨Nat.le_of_lt h1, h2⟩
      · rintro ⟨h1, u, h2, h3, h4⟩
        rcases Nat.lt_or_ge k j with q | q
        · exact Or.inr ⟨q, u, h2, h3, h4⟩
        · left
          have hj : j = k := by omega
          subst hj
          rw [Nat.sub_self] at h2
          have : v = u := by simpa using h2
          rw [h4, this]
def zLs (b h0 nL : Nat) (lsC : Array Slot) (ls : List Value) : Prop := lv_has lsC nL (zll b h0 0 ls) ∧ ls.length = nL
theorem zLs_at {b h0 nL : Nat} {lsC : Array Slot} {ls : List Value} (h : zLs b h0 nL lsC ls) {k : Nat} {v : Value} (hk : ls[k]? = some v) (hn : v ≠ .null) : lsC[k]? = some (.val (zv b h0 v)) :=
  h.1.2.2 (k, zv b h0 v) ((zll_mem ls 0 k _).mpr ⟨Nat.zero_le _, v, hk, hn, rfl⟩)
theorem zv_cat (b h0 : Nat) (v : Value) : (zv b h0 v).category = v.category := by cases v <;> rfl
/-- a store of one slot -/
theorem zLs_set {b h0 nL : Nat} {lsC ls' : Array Slot} {ls : List Value} {k : Nat} {v : Value} (h : zLs b h0 nL lsC ls) (hf : zfree ls k = true)
    (h' : lv_has ls' nL ((k, zv b h0 v) :: (zll b h0 0 ls).filter (fun q => !(q.1 == k) && !(q.1 + 1 == k && q.2.category == 2)))) : zLs b h0 nL ls' (ls.set k v) := by
  refine ⟨⟨h'.1, h'.2.1, fun q hq => ?_⟩, by rw [List.length_set]; exact h.2⟩
  obtain ⟨j, w⟩ := q
  obtain ⟨-, u, h1, h2, h3⟩ := (zll_mem _ 0 j w).mp hq
  rw [Nat.sub_zero] at h1
  apply h'.2.2
  by_cases hj : k = j
  · subst hj
    have hl : k < ls.length := by
      have := (List.getElem?_eq_some_iff.mp h1).1
      rwa [List.length_set] at this
    rw [List.getElem?_set_self hl] at h1
    rw [h3, ← Option.some.inj h1]
    exact List.mem_cons_self
  · rw [List.getElem?_set_ne hj] at h1
    refine List.mem_cons_of_mem _ (List.mem_filter.mpr ⟨(zll_mem ls 0 j w).mpr ⟨Nat.zero_le _, u, by rwa [Nat.sub_zero], h2, h3⟩, ?_⟩)
    have a1 : (j == k) = false := by simp; omega
    have a2 : (j + 1 == k && w.category == 2) = false := by
      by_cases e : j + 1 = k
      · subst e
        have : u.category = 1 := by
          unfold zfree at hf
          dsimp only at hf
          rw [h1] at hf
          simpa using hf
        rw [h3, zv_cat, this]
        simp
      · simp [e]
    show (!(j == k) && !(j + 1 == k && w.category == 2)) = true
    rw [a1, a2]
    rfl
theorem zLs_set2 {b h0 nL : Nat} {lsC ls' : Array Slot} {ls : List Value} {k : Nat} {v : Value} (h : zLs b h0 nL lsC ls) (hf : zfree ls k = true) (hk : k + 1 < ls.length)
    (h' : lv_has ls' nL ((k, zv b h0 v) :: (zll b h0 0 ls).filter (fun q => !(q.1 == k) && (!(q.1 == k + 1) && !(q.1 + 1 == k && q.2.category == 2))))) : zLs b h0 nL ls' ((ls.set k v).set (k + 1) .null) := by
  refine ⟨⟨h'.1, h'.2.1, fun q hq => ?_⟩, by rw [List.length_set, List.length_set]; exact h.2⟩
  obtain ⟨j, w⟩ := q
  obtain ⟨-, u, h1, h2, h3⟩ := (zll_mem _ 0 j w).mp hq
  rw [Nat.sub_zero] at h1
  apply h'.2.2
  by_cases hj2 : k + 1 = j
  · subst hj2
    rw [List.getElem?_set_self (by rw [List.length_set]; exact hk)] at h1
    exact absurd (Option.some.inj h1).symm h2
  rw [List.getElem?_set_ne hj2] at h1
  by_cases hj : k = j
  · subst hj
    rw [List.getElem?_set_self (by omega)] at h1
    rw [h3, ← Option.some.inj h1]
    exact List.mem_cons_self
  · rw [List.getElem?_set_ne hj] at h1
    refine List.mem_cons_of_mem _ (List.mem_filter.mpr ⟨(zll_mem ls 0 j w).mpr ⟨Nat.zero_le _, u, by rwa [Nat.sub_zero], h2, h3⟩, ?_⟩)
    have a1 : (j == k) = false := by simp; omega
    have a0 : (j == k + 1) = false := by simp; omega
    have a2 : (j + 1 == k && w.category == 2) = false := by
      by_cases e : j + 1 = k
      · subst e
        have : u.category = 1 := by
          unfold zfree at hf
          dsimp only at hf
          rw [h1] at hf
          simpa using hf
        rw [h3, zv_cat, this]
        simp
      · simp [e]
    show (!(j == k) && (!(j == k + 1) && !(j + 1 == k && w.category == 2))) = true
    rw [a1, a0, a2]
    rfl
