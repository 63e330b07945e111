/-! THE PURE MACHINE IS SOUND, part 3: fields, arrays, what is made -/
theorem zmem_sI {D : va_G} {cA : Nat → ClassId} {h0 : Nat} {HL : Heap} {m : zM} {t : Nat} {f : Nat → Int32} {e : va_E} {H1 : Heap} {locs1 : List Loc} (ht : t ≠ 0) (he : zent cA h0 (zsI m t f) t = e)
    (hP : va_P D zcl ((zwl cA h0 m).set (t - 1) (h0 + t, e)) H1) (hS : va_S (zAf h0) HL H1 locs1) : zWd D cA h0 HL (zsI m t f) H1 locs1 := by
  rw [zwl_set (m := m) (m' := zsI m t f) ht rfl he (fun j hj => zsI_ne hj)] at hP
  exact ⟨hP, hS⟩
theorem zmem_sR {D : va_G} {cA : Nat → ClassId} {h0 : Nat} {HL : Heap} {m : zM} {t k u : Nat} {e : va_E} {H1 : Heap} {locs1 : List Loc} (ht : t ≠ 0) (he : zent cA h0 (zsR m t k u) t = e)
    (hP : va_P D zcl ((zwl cA h0 m).set (t - 1) (h0 + t, e)) H1) (hS : va_S (zAf h0) HL H1 locs1) : zWd D cA h0 HL (zsR m t k u) H1 locs1 := by
  rw [zwl_set (m := m) (m' := zsR m t k u) ht rfl he (fun j hj => zsR_ne hj)] at hP
  exact ⟨hP, hS⟩
theorem zin_ok {i : Int32} {n : Nat} (h : zin i n = true) : vp_in i n := by
  unfold zin at h
  simp only [Bool.and_eq_true, decide_eq_true_eq] at h
  rintro (q | q)
  · exact h.1 q
  · omega
/-- a nest mate's field is another class's -/
def zNo (w : Cond) : Bool := match w with
  | .fieldLinkNest o _ r _ _ _ => decide (o ≠ r)
  | _ => true
theorem zNest_own : lw_tbl.all zNo = true := by decide +kernel
section ZT
variable {D : va_G} {cA : Nat → ClassId} {b h0 : Nat} {X : Nat × (Nat → Int32)} {HL : Heap} {y pc n : Nat} {ls st : List Value} {m : zM} {q : Nat × List Value × List Value × zM}
/-- the words of a kind of object -/
theorem zCk_ok {ci : Nat} (h : ci < 11) : ∃ q : vw_C, zcl[ci]? = some q ∧ q.2.2 = zNf ci ∧ (∀ w ∈ u_ws q.1 q.2.1 q.2.2, w ∈ zTT) ∧ Cond.instantiable q.1 q.2.2 ∈ zTT ∧ Cond.initialized q.1 ∈ zTT := by
  have h1 := zCk_all ci h
  unfold zCk at h1
  split at h1
  next q e =>
    simp only [Bool.and_eq_true, decide_eq_true_eq] at h1
    obtain ⟨⟨⟨⟨⟨h2, h3⟩, h4⟩, h5⟩, h6⟩, h7⟩ := h1
    refine ⟨q, e, h3, fun w hw => ?_, zTT_mem h4 h5, zTT_mem h6 h7⟩
    obtain ⟨k, hk, e2⟩ := List.mem_map.mp hw
    have h8 := List.all_eq_true.mp h2 k hk
    simp only [Bool.and_eq_true] at h8
    rw [← e2]
    exact zTT_mem h8.1 h8.2
  next => cases h1
/-- the type of a field -/
theorem zTk_ok {ci k : Nat} (h : ci < 11) (hk : k < zNf ci) : (zFk ci k = 0 → parseFieldDescriptor (zFl ci k).2.2.1 = some .int) ∧ (zFk ci k = 1 → parseFieldDescriptor (zFl ci k).2.2.1 = some .boolean) ∧ (zFk ci k = 2 → ∃ ty, parseFieldDescriptor (zFl ci k).2.2.1 = some ty ∧ ((∃ c, ty = .object c) ∨ ∃ t, ty = .array t)) := by
  have h1 := zTk_all ci h
  obtain ⟨q, e, e2, -⟩ := zCk_ok h
  unfold zTk at h1
  unfold zFl
  rw [e] at h1 ⊢
  dsimp only at h1 ⊢
  have h2 := List.all_eq_true.mp h1 k (List.mem_range.mpr (by rw [e2]; exact hk))
  refine ⟨fun z => ?_, fun z => ?_, fun z => ?_⟩
  · rw [z] at h2
    exact of_decide_eq_true h2
  · rw [z] at h2
    exact of_decide_eq_true h2
  · have h2 : (match parseFieldDescriptor (q.2.1 k).2.2.1 with
      | some (.object _) => true
      | some (.array _) => true
      | _ => false) = true := by
      rw [z] at h2
      exact h2
    split at h2
    next c e3 => exact ⟨_, e3, Or.inl ⟨c, rfl⟩⟩
    next t e3 => exact ⟨_, e3, Or.inr ⟨t, rfl⟩⟩
    next => cases h2
theorem zfl_ok {i a k w : Nat} (h : zfl y i a k w = true) : a < 11 ∧ k < zNf a ∧ (Cond.fieldLink (zOw y) i (zFl a k).1 (zFl a k).2.1 (zFl a k).2.2.1 ∈ zTT ∨ (Cond.fieldLinkNest (zOw y) i (zFl a k).1 (zFl a k).2.1 (zFl a k).2.2.1 "FiveInks" ∈ lw_tbl)) := by
  unfold zfl at h
  simp only [Bool.and_eq_true, Bool.or_eq_true, decide_eq_true_eq] at h
  obtain ⟨⟨h1, h2⟩, h3⟩ := h
  refine ⟨h1, h2, ?_⟩
  rcases h3 with h3 | h3
  · exact Or.inl (zTT_mem h3.1 h3.2)
  · exact Or.inr (zw_in h3)
/-- no final field is stored by a nest mate -/
theorem zput_nest {i a k : Nat} {r : vw_C} (hq : (r.2.1 k).2.2.2 = true) (er : zcl[a]? = some r) (ho : zOw y = (r.2.1 k).1) : ¬ Cond.fieldLinkNest (zOw y) i (r.2.1 k).1 (r.2.1 k).2.1 (r.2.1 k).2.2.1 "FiveInks" ∈ lw_tbl := by
  intro h
  have h1 := List.all_eq_true.mp zNest_own _ h
  rw [ho] at h1
  unfold zNo at h1
  simp at h1
theorem zs_get {i a k w : Nat} (hd : decode (zB y) pc = .ok (.getfield i, 3)) (hf : zfl y i a k w = true) (h : zget a k pc ls st m = some (.inl q)) : zSp D cA b h0 X HL y pc ls st m q := by
  obtain ⟨ha, hk, hlk⟩ := zfl_ok hf
  unfold zget at h
  split at h
  next t st =>
    split at h
    next hc0 =>
      obtain ⟨h1, h2, h3⟩ := hc0
      obtain ⟨r, er, e2, hin, -, -⟩ := zCk_ok ha
      have e3 : zFl a k = r.2.1 k := by unfold zFl; rw [er]
      have hval : ∃ v, q = (pc + 3, ls, v :: st, m) ∧ zv b h0 v = zfv h0 a m t k := by
        unfold zfv
        split at h
        next z =>
          split at h
          next => cases h
          next hne =>
            refine ⟨_, zgo_inv h, ?_⟩
            rw [if_pos z]
            unfold zrf
            rw [if_neg hne]
            show Value.ref (zad b h0 (zRf m t k)) = Value.ref (h0 + zRf m t k)
            rw [zad_ne hne]
        next z =>
          refine ⟨_, zgo_inv h, ?_⟩
          rw [if_neg z]
          rfl
      obtain ⟨v, e4, e5⟩ := hval
      subst e4
      intro l p e R s mi args below meth c H locs cells slots Q lsC hc hw hz hl hk1 hk2 kk
      have hfs : ((List.range (zLe m t)).map (zfv h0 a m t))[k]? = some (zfv h0 a m t k) := by
        rw [List.getElem?_map, List.getElem?_range h3]
        rfl
      have hcell := zwl_get (cA := cA) (h0 := h0) h1 h2 (by omega)
      rw [zent_3 h2] at hcell
      have kk' := kk H locs lsC cells slots hw hl rfl rfl
      rw [show (v :: st).map (zv b h0) = zv b h0 v :: st.map (zv b h0) from rfl, e5] at kk'
      show W p l _ R s mi args below meth c H locs cells slots Q (F0 mi pc lsC (.ref (zad b h0 t) :: st.map (zv b h0)))
      rw [zad_ne h1]
      have hr : zcl[a]? = some (r.1, r.2.1, r.2.2) := er
      rcases hlk with hlk | hlk
      · rw [e3] at hlk
        exact va_get hc.1 hc.2.1 hc.2.2.2.2.1 hin hc.2.2.2.1 hc.2.2.2.2.2.1.1 hw.1 (t - 1) hcell hr k (by rw [e2]; exact hk) (hc.2.2.2.2.1 _ hlk) (fun _ z => z) hfs hd kk'
      · rw [e3] at hlk
        exact va_getN hc.1 hc.2.1 hc.2.2.2.2.1 hin hc.2.2.2.1 hc.2.2.2.2.2.1.1 hw.1 (t - 1) hcell hr k (by rw [e2]; exact hk) (va_Nw.use rfl (hc.2.2.2.2.2.1.2.1.1 _ hlk rfl)) (fun _ z => z) hfs hd kk'
    next => cases h
  next => cases h
/-- what the kit wants of a class's fields -/
def zTb (T : u_T) (N ci : Nat) (ty : Nat → FieldType) : Prop := (∀ k, k < N → parseFieldDescriptor (T k).2.2.1 = some (ty k)) ∧ (∀ a, a < N → ∀ b, b < N → a ≠ b → (T a).2.1 ≠ (T b).2.1) ∧ ∀ k, k < N → defaultValue (ty k) = if zFk ci k = 2 then .null else .int 0
theorem zTb_ok {ci : Nat} {r : vw_C} (h : ci < 11) (e : zcl[ci]? = some r) : ∃ ty, zTb r.2.1 r.2.2 ci ty := by
  match ci, h with
  | 0, _ => cases e; exact ⟨tyX0, tyX0_ok, nmX0, by decide +kernel⟩
  | 1, _ => cases e; exact ⟨tyX1, tyX1_ok, nmX1, by decide +kernel⟩
  | 2, _ => cases e; exact ⟨tyX2, tyX2_ok, nmX2, by decide +kernel⟩
  | 3, _ => cases e; exact ⟨tyX3, tyX3_ok, nmX3, by decide +kernel⟩
  | 4, _ => cases e; exact ⟨tyX4, tyX4_ok, nmX4, by decide +kernel⟩
  | 5, _ => cases e; exact ⟨tyX5, tyX5_ok, nmX5, by decide +kernel⟩
  | 6, _ => cases e; exact ⟨tyX6, tyX6_ok, nmX6, by decide +kernel⟩
  | 7, _ => cases e; exact ⟨tyX7, tyX7_ok, nmX7, by decide +kernel⟩
  | 8, _ => cases e; exact ⟨tyX8, tyX8_ok, nmX8, by decide +kernel⟩
  | 9, _ => cases e; exact ⟨tyX9, tyX9_ok, nmX9, by decide +kernel⟩
  | 10, _ => cases e; exact ⟨tyX10, tyX10_ok, nmX10, by decide +kernel⟩
theorem zmap_set {g g' : Nat → Value} {n k : Nat} {v : Value} (h1 : g' k = v) (h2 : ∀ j, j ≠ k → g' j = g j) : (List.range n).map g' = ((List.range n).map g).set k v := by
  apply List.ext_getElem?
  intro j
  by_cases hj : j < n
  · rw [List.getElem?_map, List.getElem?_range hj]
    by_cases e : k = j
    · subst e
      rw [List.getElem?_set_self (by simp; exact hj)]
      show some (g' k) = some v
      rw [h1]
    · rw [List.getElem?_set_ne e, List.getElem?_map, List.getElem?_range hj]
      show some (g' j) = some (g j)
      rw [h2 j (Ne.symm e)]
  · rw [List.getElem?_eq_none (by simp; omega), List.getElem?_eq_none (by simp; omega)]
def zFin (y a k : Nat) : Bool := !(zFl a k).2.2.2 || (zini y && decide (zOw y = (zFl a k).1))
/-- a store to a field, whatever it holds -/
theorem zs_putv {i a k w t : Nat} {v : Value} {m' : zM} (hd : decode (zB y) pc = .ok (.putfield i, 3)) (hf : zfl y i a k w = true) (hfi : zFin y a k = true) (h1 : t ≠ 0) (h2 : zKi m t = a + 3) (h3 : k < zLe m t)
    (hty : ∃ ty, parseFieldDescriptor (zFl a k).2.2.1 = some ty ∧ narrow ty (zv b h0 v) = zv b h0 v ∧ fits ty (zv b h0 v) = true)
    (hs1 : m'.1 = m.1) (hs2 : m'.2.1.length = m.2.1.length) (he : zent cA h0 m' t = .inr (a, ((List.range (zLe m t)).map (zfv h0 a m t)).set k (zv b h0 v))) (ho : ∀ j, j ≠ t → zent cA h0 m' j = zent cA h0 m j) :
    zSp D cA b h0 X HL y pc ls (v :: .ref t :: st) m (pc + 3, ls, st, m') := by
  obtain ⟨ha, hk, hlk⟩ := zfl_ok hf
  obtain ⟨r, er, e2, hin, -, -⟩ := zCk_ok ha
  have e3 : zFl a k = r.2.1 k := by unfold zFl; rw [er]
  obtain ⟨ty0, ht1, ht2, -⟩ := zTb_ok ha er
  obtain ⟨ty, hp, hn, hfit⟩ := hty
  rw [e3] at hp hlk
  unfold zFin at hfi
  rw [e3] at hfi
  intro l p e R s mi args below meth c H locs cells slots Q lsC hc hw hz hl hk1 hk2 kk
  have hcell := zwl_get (cA := cA) (h0 := h0) h1 h2 (by omega)
  rw [zent_3 h2] at hcell
  have hr : zcl[a]? = some (r.1, r.2.1, r.2.2) := er
  have hlen : k < ((List.range (zLe m t)).map (zfv h0 a m t)).length := by simp; exact h3
  have hD := zwl_D cA h0 m
  show W p l _ R s mi args below meth c H locs cells slots Q (F0 mi pc lsC (zv b h0 v :: .ref (zad b h0 t) :: st.map (zv b h0)))
  rw [zad_ne h1]
  have fin : ∀ (H1 : Heap) (locs1 : List Loc), va_P D zcl ((zwl cA h0 m).set (t - 1) (h0 + t, .inr (a, ((List.range (zLe m t)).map (zfv h0 a m t)).set k (zv b h0 v)))) H1 → va_D (zAf h0) ((zwl cA h0 m).set (t - 1) (h0 + t, .inr (a, ((List.range (zLe m t)).map (zfv h0 a m t)).set k (zv b h0 v)))) → va_S (zAf h0) HL H1 locs1 →
      W p l e R s mi args below meth c H1 locs1 cells slots Q (F0 mi (pc + 3) lsC (st.map (zv b h0))) := by
    intro H1 locs1 hP hD' hS
    rw [zwl_set (m := m) (m' := m') h1 hs2 he ho] at hP
    exact kk H1 locs1 lsC cells slots ⟨hP, hS⟩ hl (by show cells + m.2.1.length = cells + m'.2.1.length; rw [hs2]) (by show slots + m.1 = slots + m'.1; rw [hs1])
  cases hq : (r.2.1 k).2.2.2 with
  | false =>
    rcases hlk with hlk | hlk
    · exact va_put hc.1 hc.2.1 hc.2.2.2.2.1 hin ty0 ht1 ht2 hc.2.2.2.1 hc.2.2.2.2.2.1.1 hw.1 hD hw.2 (t - 1) hcell hr k (by rw [e2]; exact hk) (hc.2.2.2.2.1 _ hlk) (fun _ z => z) hq hp hn hfit hlen hd fin
    · exact va_putN hc.1 hc.2.1 hc.2.2.2.2.1 hin ty0 ht1 ht2 hc.2.2.2.1 hc.2.2.2.2.2.1.1 hw.1 hD hw.2 (t - 1) hcell hr k (by rw [e2]; exact hk) (va_Nw.use rfl (hc.2.2.2.2.2.1.2.1.1 _ hlk rfl)) (fun _ z => z) hq hp hn hfit hlen hd fin
  | true =>
    rw [hq] at hfi
    simp only [Bool.not_true, Bool.false_or, Bool.and_eq_true, decide_eq_true_eq] at hfi
    rcases hlk with hlk | hlk
    · exact va_putF hc.1 hc.2.1 hc.2.2.2.2.1 hin ty0 ht1 ht2 hc.2.2.2.1 hc.2.2.2.2.2.1.1 hw.1 hD hw.2 (t - 1) hcell hr k (by rw [e2]; exact hk) (hc.2.2.2.2.1 _ hlk) (fun _ z => z) hq (hc.2.2.2.2.2.2.2.2 hfi.1) hfi.2.symm hp hn hfit hlen hd fin
    · exact absurd hlk (zput_nest hq er hfi.2)
theorem zs_put {i a k w : Nat} (hd : decode (zB y) pc = .ok (.putfield i, 3)) (hf : zfl y i a k w = true) (hfi : zFin y a k = true) (h : zput a k pc ls st m = some (.inl q)) : zSp D cA b h0 X HL y pc ls st m q := by
  obtain ⟨ha, hk, -⟩ := zfl_ok hf
  obtain ⟨t0, t1, t2⟩ := zTk_ok ha hk
  unfold zput at h
  split at h
  next x t st =>
    split at h
    next hc0 =>
      obtain ⟨h1, h2, h3, h4⟩ := hc0
      cases zgo_inv h
      refine zs_putv hd hf hfi h1 h2 h3 ?_ rfl rfl ?_ (fun j hj => zsI_ne hj)
      · rcases h4 with h4 | ⟨h4, h5⟩
        · exact ⟨_, t0 h4, rfl, rfl⟩
        · refine ⟨_, t1 h4, ?_, ?_⟩
          · rcases h5 with h5 | h5 <;> subst h5 <;> rfl
          · rcases h5 with h5 | h5 <;> subst h5 <;> rfl
      · have hne : zFk a k ≠ 2 := by rcases h4 with h4 | ⟨h4, -⟩ <;> omega
        have h2' : zKi (zsI m t (upd (zI m t) k x)) t = a + 3 := h2
        rw [zent_3 h2']
        congr 2
        refine zmap_set ?_ (fun j hj => ?_)
        · unfold zfv
          rw [if_neg hne, zsI_self]
          simp [upd]
          rfl
        · unfold zfv
          rw [zsI_self]
          simp [upd, hj]
          rfl
    next => cases h
  next u t st =>
    split at h
    next hc0 =>
      obtain ⟨h1, h2, h3, h4, h5, h6, h7⟩ := hc0
      cases zgo_inv h
      refine zs_putv hd hf hfi h1 h2 h3 ?_ rfl rfl ?_ (fun j hj => zsR_ne hj)
      · obtain ⟨ty, e1, e2⟩ := t2 h4
        refine ⟨ty, e1, ?_, ?_⟩
        · rcases e2 with ⟨c, rfl⟩ | ⟨t, rfl⟩ <;> rfl
        · rcases e2 with ⟨c, rfl⟩ | ⟨t, rfl⟩ <;> rfl
      · have h2' : zKi (zsR m t k u) t = a + 3 := h2
        rw [zent_3 h2']
        congr 2
        refine zmap_set ?_ (fun j hj => ?_)
        · unfold zfv
          rw [if_pos h4, zsR_rf_self h7 h6, if_pos rfl]
          unfold zrf
          rw [if_neg h5]
          show Value.ref (h0 + u) = Value.ref (zad b h0 u)
          rw [zad_ne h5]
        · unfold zfv
          rw [zsR_rf_self h7 h6, if_neg hj]
          rfl
    next => cases h
  next => cases h
end ZT
