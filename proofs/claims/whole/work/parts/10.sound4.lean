/-! THE PURE MACHINE IS SOUND, part 4: arrays, what is made, the JDK's own -/
section ZU
variable {D : va_G} {cA : Nat → ClassId} {b h0 : Nat} {X : Nat × (Nat → Int32)} {HL : Heap} {y pc n : Nat} {ls st : List Value} {m : zM} {q : Nat × List Value × List Value × zM}
theorem zs_iald (hd : decode (zB y) pc = .ok (.iaload, 1)) (h : ziald X pc ls st m = some (.inl q)) : zSp D cA b h0 X HL y pc ls st m q := by
  unfold ziald at h
  split at h
  next i t st =>
    split at h
    next ht =>
      subst ht
      split at h
      next hc0 =>
        cases zgo_inv h
        intro l p e R s mi args below meth c H locs cells slots Q lsC hc hw hz hl hk1 hk2 kk
        obtain ⟨-, -, hX, hH, hb⟩ := hc.2.2.2.2.2.1
        exact va_sld hc.1 hc.2.1 hX (by omega) (Nat.not_lt.mpr hb) hw.2 (zin_ok hc0.2) hd (kk H locs lsC cells slots hw hl rfl rfl)
      next => cases h
    next ht =>
      split at h
      next hc0 =>
        cases zgo_inv h
        intro l p e R s mi args below meth c H locs cells slots Q lsC hc hw hz hl hk1 hk2 kk
        have hcell := zwl_get (cA := cA) (h0 := h0) ht hc0.1 (by omega)
        rw [zent_0 hc0.1] at hcell
        show W p l _ R s mi args below meth c H locs cells slots Q (F0 mi pc lsC (.int i :: .ref (zad b h0 t) :: st.map (zv b h0)))
        rw [zad_ne ht]
        exact va_iald hc.1 hc.2.1 hc.2.2.2.2.2.1.1 hw.1 (t - 1) 0 hcell rfl (zin_ok hc0.2) hd (kk H locs lsC cells slots hw hl rfl rfl)
      next => cases h
  next => cases h
theorem zs_bald (hd : decode (zB y) pc = .ok (.baload, 1)) (h : zbald pc ls st m = some (.inl q)) : zSp D cA b h0 X HL y pc ls st m q := by
  unfold zbald at h
  split at h
  next i t st =>
    split at h
    next hc0 =>
      obtain ⟨ht, h1, h2⟩ := hc0
      cases zgo_inv h
      intro l p e R s mi args below meth c H locs cells slots Q lsC hc hw hz hl hk1 hk2 kk
      have hcell := zwl_get (cA := cA) (h0 := h0) ht h1 (by omega)
      rw [zent_1 h1] at hcell
      show W p l _ R s mi args below meth c H locs cells slots Q (F0 mi pc lsC (.int i :: .ref (zad b h0 t) :: st.map (zv b h0)))
      rw [zad_ne ht]
      exact va_zald hc.1 hc.2.1 hc.2.2.2.2.2.1.1 hw.1 (t - 1) 1 hcell rfl (zin_ok h2) hd (kk H locs lsC cells slots hw hl rfl rfl)
    next => cases h
  next => cases h
theorem zs_aald (hd : decode (zB y) pc = .ok (.aaload, 1)) (h : zaald pc ls st m = some (.inl q)) : zSp D cA b h0 X HL y pc ls st m q := by
  unfold zaald at h
  split at h
  next i t st =>
    split at h
    next hc0 =>
      obtain ⟨ht, h1, h2, h3⟩ := hc0
      cases zgo_inv h
      intro l p e R s mi args below meth c H locs cells slots Q lsC hc hw hz hl hk1 hk2 kk
      have hcell := zwl_get (cA := cA) (h0 := h0) ht h1 (by omega)
      rw [zent_2 h1] at hcell
      show W p l _ R s mi args below meth c H locs cells slots Q (F0 mi pc lsC (.int i :: .ref (zad b h0 t) :: st.map (zv b h0)))
      rw [zad_ne ht]
      refine va_aldq hc.1 hc.2.1 hc.2.2.2.2.2.1.1 hw.1 (t - 1) 2 hcell rfl (zin_ok h2) hd ?_
      have k1 := kk H locs lsC cells slots hw hl rfl rfl
      have e1 : va_rf (zrf h0 (zRf m t i.toNatClampNeg)) = zv b h0 (.ref (zRf m t i.toNatClampNeg)) := by
        unfold zrf
        rw [if_neg h3]
        show Value.ref (h0 + zRf m t i.toNatClampNeg) = Value.ref (zad b h0 _)
        rw [zad_ne h3]
      rw [e1]
      exact k1
    next => cases h
  next => cases h
theorem zs_iast (hd : decode (zB y) pc = .ok (.iastore, 1)) (h : ziast pc ls st m = some (.inl q)) : zSp D cA b h0 X HL y pc ls st m q := by
  unfold ziast at h
  split at h
  next x i t st =>
    split at h
    next hc0 =>
      obtain ⟨ht, h1, h2⟩ := hc0
      cases zgo_inv h
      intro l p e R s mi args below meth c H locs cells slots Q lsC hc hw hz hl hk1 hk2 kk
      have hcell := zwl_get (cA := cA) (h0 := h0) ht h1 (by omega)
      rw [zent_0 h1] at hcell
      show W p l _ R s mi args below meth c H locs cells slots Q (F0 mi pc lsC (.int x :: .int i :: .ref (zad b h0 t) :: st.map (zv b h0)))
      rw [zad_ne ht]
      refine va_iast hc.1 hc.2.1 hc.2.2.2.2.2.1.1 hw.1 (zwl_D cA h0 m) hw.2 (t - 1) 0 hcell rfl (zin_ok h2) hd (fun H1 locs1 hP hD hS => ?_)
      refine kk H1 locs1 lsC cells slots (zmem_sI ht ?_ hP hS) hl rfl rfl
      have h1' : zKi (zsI m t (upd (zI m t) i.toNatClampNeg x)) t = 0 := h1
      rw [zent_0 h1', zsI_self]
      rfl
    next => cases h
  next => cases h
theorem zs_bast (hd : decode (zB y) pc = .ok (.bastore, 1)) (h : zbast pc ls st m = some (.inl q)) : zSp D cA b h0 X HL y pc ls st m q := by
  unfold zbast at h
  split at h
  next x i t st =>
    split at h
    next hc0 =>
      obtain ⟨ht, h1, h2, h3⟩ := hc0
      cases zgo_inv h
      intro l p e R s mi args below meth c H locs cells slots Q lsC hc hw hz hl hk1 hk2 kk
      have hcell := zwl_get (cA := cA) (h0 := h0) ht h1 (by omega)
      rw [zent_1 h1] at hcell
      show W p l _ R s mi args below meth c H locs cells slots Q (F0 mi pc lsC (.int x :: .int i :: .ref (zad b h0 t) :: st.map (zv b h0)))
      rw [zad_ne ht]
      refine va_zast hc.1 hc.2.1 hc.2.2.2.2.2.1.1 hw.1 (zwl_D cA h0 m) hw.2 (t - 1) 1 hcell rfl (zin_ok h2) hd (fun H1 locs1 hP hD hS => ?_)
      have hx : vp_nar .boolean x = x := by rcases h3 with h3 | h3 <;> subst h3 <;> rfl
      rw [hx] at hP
      refine kk H1 locs1 lsC cells slots (zmem_sI ht ?_ hP hS) hl rfl rfl
      have h1' : zKi (zsI m t (upd (zI m t) i.toNatClampNeg x)) t = 1 := h1
      rw [zent_1 h1', zsI_self]
      rfl
    next => cases h
  next => cases h
theorem zs_aast (hd : decode (zB y) pc = .ok (.aastore, 1)) (h : zaast pc ls st m = some (.inl q)) : zSp D cA b h0 X HL y pc ls st m q := by
  unfold zaast at h
  split at h
  next u i t st =>
    split at h
    next hc0 =>
      obtain ⟨ht, h1, h2, hu, h3, h4, h5⟩ := hc0
      cases zgo_inv h
      intro l p e R s mi args below meth c H locs cells slots Q lsC hc hw hz hl hk1 hk2 kk
      have hcell := zwl_get (cA := cA) (h0 := h0) ht h1 (by omega)
      rw [zent_2 h1] at hcell
      have hcu := zwl_get (cA := cA) (h0 := h0) hu h3 (by omega)
      rw [zent_3 h3] at hcu
      show W p l _ R s mi args below meth c H locs cells slots Q (F0 mi pc lsC (.ref (zad b h0 u) :: .int i :: .ref (zad b h0 t) :: st.map (zv b h0)))
      rw [zad_ne ht, zad_ne hu]
      refine va_astq (r := (RX4, TX4, 4)) hc.1 hc.2.1 hc.2.2.2.2.2.1.1 hw.1 (zwl_D cA h0 m) hw.2 (t - 1) 2 (u - 1) 4 hcell rfl hcu rfl (zin_ok h2) hd (fun H1 locs1 hP hD hS => ?_)
      refine kk H1 locs1 lsC cells slots (zmem_sR ht ?_ hP hS) hl rfl rfl
      have h1' : zKi (zsR m t i.toNatClampNeg u) t = 2 := h1
      have key : (fun j => zrf h0 (zRf (zsR m t i.toNatClampNeg u) t j)) = va_up (fun j => zrf h0 (zRf m t j)) i.toNatClampNeg (some (h0 + u)) := by
        funext j
        rw [zsR_rf_self h5 h4]
        unfold va_up
        by_cases hj : j = i.toNatClampNeg
        · rw [if_pos hj, if_pos hj]
          unfold zrf
          rw [if_neg hu]
        · rw [if_neg hj, if_neg hj]
      rw [zent_2 h1', key]
      rfl
    next => cases h
  next => cases h
theorem zs_alen (hd : decode (zB y) pc = .ok (.arraylength, 1)) (h : zalen X pc ls st m = some (.inl q)) : zSp D cA b h0 X HL y pc ls st m q := by
  unfold zalen at h
  split at h
  next t st =>
    split at h
    next ht =>
      subst ht
      split at h
      next hc0 =>
        cases zgo_inv h
        intro l p e R s mi args below meth c H locs cells slots Q lsC hc hw hz hl hk1 hk2 kk
        obtain ⟨-, -, hX, hH, hb⟩ := hc.2.2.2.2.2.1
        show W p l _ R s mi args below meth c H locs cells slots Q (F0 mi pc lsC (.ref b :: st.map (zv b h0)))
        exact va_slen hc.1 hc.2.1 hX (by omega) (Nat.not_lt.mpr hb) hw.2 hd (kk H locs lsC cells slots hw hl rfl rfl)
      next => cases h
    next ht =>
      split at h
      next hc0 =>
        cases zgo_inv h
        intro l p e R s mi args below meth c H locs cells slots Q lsC hc hw hz hl hk1 hk2 kk
        show W p l _ R s mi args below meth c H locs cells slots Q (F0 mi pc lsC (.ref (zad b h0 t) :: st.map (zv b h0)))
        rw [zad_ne ht]
        have hk : zKi m t = 0 ∨ zKi m t = 1 ∨ zKi m t = 2 := by omega
        rcases hk with hk | hk | hk
        · have hcell := zwl_get (cA := cA) (h0 := h0) ht hk (by omega)
          rw [zent_0 hk] at hcell
          exact va_alen hc.1 hc.2.1 hc.2.2.2.2.2.1.1 hw.1 (t - 1) 0 hcell rfl rfl hd (kk H locs lsC cells slots hw hl rfl rfl)
        · have hcell := zwl_get (cA := cA) (h0 := h0) ht hk (by omega)
          rw [zent_1 hk] at hcell
          exact va_alen hc.1 hc.2.1 hc.2.2.2.2.2.1.1 hw.1 (t - 1) 1 hcell rfl rfl hd (kk H locs lsC cells slots hw hl rfl rfl)
        · have hcell := zwl_get (cA := cA) (h0 := h0) ht hk (by omega)
          rw [zent_2 hk] at hcell
          exact va_alen hc.1 hc.2.1 hc.2.2.2.2.2.1.1 hw.1 (t - 1) 2 hcell rfl rfl hd (kk H locs lsC cells slots hw hl rfl rfl)
      next => cases h
  next => cases h
/-- where the new cell lies -/
theorem znew_at {H1 : Heap} {e : va_E} {qa N : Nat} (hm : 0 < m.2.1.length) (hP : va_P D zcl (zwl cA h0 m ++ [(qa, e)]) H1) (hD : va_D (zAf h0) (zwl cA h0 m ++ [(qa, e)])) (hN : N = h0 + m.2.1.length) (hu : H1.size ≤ N + 1) : qa = h0 + m.2.1.length := by
  have hl : (zwl cA h0 m).length = m.2.1.length - 1 := by unfold zwl; simp
  have hg : (zwl cA h0 m ++ [(qa, e)])[m.2.1.length - 1]? = some (qa, e) := by
    rw [List.getElem?_append_right (by omega), hl]
    simp
  have h1 := (hP _ _ hg).lt
  have h2 : h0 < qa := hD.2 _ _ hg
  dsimp only at h1
  rcases Nat.lt_or_ge qa (h0 + m.2.1.length) with z | z
  · exfalso
    have h3 : (zwl cA h0 m ++ [(qa, e)])[qa - h0 - 1]? = some (h0 + (qa - h0 - 1 + 1), zent cA h0 m (qa - h0 - 1 + 1)) := by
      rw [List.getElem?_append_left (by omega)]
      unfold zwl
      rw [List.getElem?_map, List.getElem?_range (by omega)]
      rfl
    have h4 := hD.1 _ _ _ _ hg h3 (by show qa = h0 + (qa - h0 - 1 + 1); omega)
    omega
  · omega
theorem zwf_pos (h : zwf m = true) : 0 < m.2.1.length := by
  unfold zwf at h
  simp only [Bool.and_eq_true, decide_eq_true_eq] at h
  exact h.2
theorem zalloc_len (kd n : Nat) : (zalloc m kd n).2.1.length = m.2.1.length + 1 := by
  show (m.2.1 ++ [kd]).length = _
  rw [List.length_append]
  rfl
theorem znewa_inv {kd k : Nat} (h : znewa kd pc k ls st m = some (.inl q)) : ∃ x st', st = .int x :: st' ∧ ¬ x < 0 ∧ x.toNatClampNeg ≤ 100000 ∧ zwf m = true ∧ q = (pc + k, ls, .ref m.2.1.length :: st', zalloc m kd x.toNatClampNeg) := by
  unfold znewa at h
  split at h
  next x st' =>
    split at h
    next hc0 => exact ⟨x, st', rfl, hc0.1, hc0.2.1, hc0.2.2, zgo_inv h⟩
    next => cases h
  next => cases h
theorem zv_new (hm : 0 < m.2.1.length) : zv b h0 (.ref m.2.1.length) = .ref (h0 + m.2.1.length) := by
  show Value.ref (zad b h0 _) = _
  rw [zad_ne (by omega)]
theorem zs_newa {at0 : ArrayType} {ty : FieldType} {kd k t0 : Nat} (hd : decode (zB y) pc = .ok (.newarray at0, 2)) (hty : newarray.typeOf at0 = ty) (hcb : componentBytes ty ≤ 4) (hdv : defaultValue ty = .int 0) (hra : ∀ (U : State) (cB : ClassId), va_RA U cB ty → U.vm.findClass ("[" ++ ty.toString) = some cB)
    (hwd : Cond.arrayClass ty ∈ lw_tbl) (htk : ∀ c : Nat → ClassId, (zTy c)[kd]? = some (c kd, ty)) (hen : ∀ (z : zM) (t : Nat), zKi z t = kd → zent cA h0 z t = .inl (cA kd, zLe z t, .inl (zI z t))) (h : znewa kd pc 2 ls st m = some (.inl q)) : zSp D cA b h0 X HL y pc ls st m q := by
  obtain ⟨x, st', rfl, hx, hx2, hwf, rfl⟩ := znewa_inv h
  obtain ⟨f1, f2, -, f4⟩ := zalloc_facts (m := m) (kd := kd) (n := x.toNatClampNeg) hwf
  have hm := zwf_pos hwf
  intro l p e R s mi args below meth c H locs cells slots Q lsC hc hw hz hl hk1 hk2 kk
  have hk1 : cells + (zalloc m kd x.toNatClampNeg).2.1.length ≤ R.cells + m.2.1.length := hk1
  have hk2 : slots + (m.1 + x.toNatClampNeg) ≤ R.slots + m.1 := hk2
  rw [zalloc_len] at hk1
  have hK := hc.2.2.2.2.2.1.1
  have hH := hc.2.2.2.2.2.1.2.2.2.1
  have hwg : Cond.arrayClass ty ∈ zTT := zTT_in hwd rfl
  refine va_newa (a0 := (x.toNatClampNeg, .inl (fun _ => 0))) hc.1 hc.2.1 (hty ▸ hc.2.2.2.2.1 _ hwg) hty hK hw.1 (zwl_D cA h0 m) hw.2 (fun z hzz => by show h0 < z; omega) (fun cB => by rw [vp_cell_i, hdv]) hx rfl (Nat.le_trans (Nat.mul_le_mul hx2 hcb) (by decide)) (by omega) (by omega) hd (fun qa cB H1 hK1 hP hD hS => ?_)
  refine zW_size (fun hu => ?_)
  have hqa := znew_at hm hP hD hz (by omega)
  have hcB : cB = cA kd := by
    have g1 := (hK1.2 3 (cB, ty) (by rw [List.getElem?_append_right (show (zTy cA).length ≤ 3 from Nat.le_refl 3)]; rfl)).2
    have g2 := (hK.2 kd (cA kd, ty) (htk cA)).2
    exact Option.some.inj ((hra _ _ g1).symm.trans (hra _ _ g2))
  subst hqa
  subst hcB
  have he : zent cA h0 (zalloc m kd x.toNatClampNeg) m.2.1.length = .inl (cA kd, x.toNatClampNeg, .inl (fun _ => 0)) := by rw [hen _ _ f1, f2, f4]
  rw [zwl_push hwf he] at hP
  have k1 := kk H1 locs lsC (cells + 1) (slots + x.toNatClampNeg) ⟨hP, hS⟩ hl (by show cells + 1 + m.2.1.length = cells + (zalloc m kd x.toNatClampNeg).2.1.length; rw [zalloc_len]; omega) (by show slots + x.toNatClampNeg + m.1 = slots + (m.1 + x.toNatClampNeg); omega)
  rw [show (Value.ref m.2.1.length :: st').map (zv b h0) = zv b h0 (.ref m.2.1.length) :: st'.map (zv b h0) from rfl, zv_new hm] at k1
  exact k1
theorem zs_newa_i (hd : decode (zB y) pc = .ok (.newarray .int, 2)) (h : znewa 0 pc 2 ls st m = some (.inl q)) : zSp D cA b h0 X HL y pc ls st m q :=
  zs_newa (k := 0) (t0 := 0) hd rfl (by decide) rfl (fun U cB z => z) (zw_in zw_int) (fun c => rfl) (fun z t e => zent_0 e) h
theorem zs_newa_z (hd : decode (zB y) pc = .ok (.newarray .boolean, 2)) (h : znewa 1 pc 2 ls st m = some (.inl q)) : zSp D cA b h0 X HL y pc ls st m q :=
  zs_newa (k := 0) (t0 := 0) hd rfl (by decide) rfl (fun U cB z => z) (zw_in zw_bool) (fun c => rfl) (fun z t e => zent_1 e) h
theorem zs_newq {i w : Nat} (hd : decode (zB y) pc = .ok (.anewarray i, 3)) (hzw : zw w (.classLink (zOw y) i "FiveInks$Sheet") = true) (hg : goodWord (.classLink (zOw y) i "FiveInks$Sheet") = true) (h : znewa 2 pc 3 ls st m = some (.inl q)) : zSp D cA b h0 X HL y pc ls st m q := by
  obtain ⟨x, st', rfl, hx, hx2, hwf, rfl⟩ := znewa_inv h
  obtain ⟨f1, f2, f3, -⟩ := zalloc_facts (m := m) (kd := 2) (n := x.toNatClampNeg) hwf
  have hm := zwf_pos hwf
  intro l p e R s mi args below meth c H locs cells slots Q lsC hc hw hz hl hk1 hk2 kk
  have hk1 : cells + (zalloc m 2 x.toNatClampNeg).2.1.length ≤ R.cells + m.2.1.length := hk1
  have hk2 : slots + (m.1 + x.toNatClampNeg) ≤ R.slots + m.1 := hk2
  rw [zalloc_len] at hk1
  have hK := hc.2.2.2.2.2.1.1
  have hH := hc.2.2.2.2.2.1.2.2.2.1
  refine va_newq hc.1 hc.2.1 hc.2.2.2.1 (hc.2.2.2.2.1 _ (zTT_mem hzw hg)) hc.2.2.2.2.2.1.2.1.2 hK hw.1 (zwl_D cA h0 m) hw.2 (fun z hzz => by show h0 < z; omega) hx rfl (Nat.le_trans (Nat.mul_le_mul hx2 (Nat.le_refl 4)) (by decide)) (by omega) (by omega) hd (fun qa cB H1 hK1 hP hD hS => ?_)
  refine zW_size (fun hu => ?_)
  have hqa := znew_at hm hP hD hz (by omega)
  have hcB : cB = cA 2 := by
    obtain ⟨_, _, _, _, _, g1⟩ := (hK1.2 3 (cB, .object "FiveInks$Sheet") (by rw [List.getElem?_append_right (show (zTy cA).length ≤ 3 from Nat.le_refl 3)]; rfl)).2
    obtain ⟨_, _, _, _, _, g2⟩ := (hK.2 2 (cA 2, .object "FiveInks$Sheet") rfl).2
    exact Option.some.inj (g1.symm.trans g2)
  subst hqa
  subst hcB
  have he : zent cA h0 (zalloc m 2 x.toNatClampNeg) m.2.1.length = .inl (cA 2, x.toNatClampNeg, .inr (.inr (.inr (.inr (fun _ => none))))) := by
    rw [zent_2 f1, f2]
    simp only [f3]
    rfl
  rw [zwl_push hwf he] at hP
  have k1 := kk H1 locs lsC (cells + 1) (slots + x.toNatClampNeg) ⟨hP, hS⟩ hl (by show cells + 1 + m.2.1.length = cells + (zalloc m 2 x.toNatClampNeg).2.1.length; rw [zalloc_len]; omega) (by show slots + x.toNatClampNeg + m.1 = slots + (m.1 + x.toNatClampNeg); omega)
  rw [show (Value.ref m.2.1.length :: st').map (zv b h0) = zv b h0 (.ref m.2.1.length) :: st'.map (zv b h0) from rfl, zv_new hm] at k1
  exact k1
theorem zs_new {i a w : Nat} (hd : decode (zB y) pc = .ok (.new i, 3)) (ha : a < 11) (hzw : zw w (.classLink (zOw y) i (zCl a)) = true) (hg : goodWord (.classLink (zOw y) i (zCl a)) = true) (h : znew a pc ls st m = some (.inl q)) : zSp D cA b h0 X HL y pc ls st m q := by
  unfold znew at h
  split at h
  next hwf =>
    cases zgo_inv h
    obtain ⟨f1, f2, f3, f4⟩ := zalloc_facts (m := m) (kd := a + 3) (n := zNf a) hwf
    have hm := zwf_pos hwf
    obtain ⟨r, er, e2, hin, hins, hini⟩ := zCk_ok ha
    obtain ⟨ty0, ht1, ht2, ht3⟩ := zTb_ok ha er
    have e3 : zCl a = r.1 := by unfold zCl; rw [er]
    rw [e3] at hzw hg
    intro l p e R s mi args below meth c H locs cells slots Q lsC hc hw hz hl hk1 hk2 kk
    have hk1 : cells + (zalloc m (a + 3) (zNf a)).2.1.length ≤ R.cells + m.2.1.length := hk1
    have hk2 : slots + (m.1 + zNf a) ≤ R.slots + m.1 := hk2
    rw [zalloc_len] at hk1
    have hK := hc.2.2.2.2.2.1.1
    have hH := hc.2.2.2.2.2.1.2.2.2.1
    have hr : zcl[a]? = some (r.1, r.2.1, r.2.2) := er
    have he : zent cA h0 (zalloc m (a + 3) (zNf a)) m.2.1.length = .inr (a, (List.range (zNf a)).map (fun k => if zFk a k = 2 then .null else .int 0)) := by
      rw [zent_3 f1, f2]
      congr 3
      funext k
      unfold zfv
      rw [f3 k, f4]
      rfl
    refine va_new (fs := (List.range (zNf a)).map (fun k => if zFk a k = 2 then .null else .int 0)) hc.1 hc.2.1 hc.2.2.2.2.1 hin ty0 ht1 hc.2.2.2.1 (hc.2.2.2.2.1 _ (zTT_mem hzw hg)) (hc.2.2.2.2.1 _ hins) (hc.2.2.2.2.1 _ hini) hK hw.1 (zwl_D cA h0 m) hw.2 (fun z hzz => by show h0 < z; omega) hr (fun j hj => ?_) (by omega) (by omega) hd (fun qa H1 hP hD hS => ?_)
    · rw [ht3 j hj]
      unfold vp_V
      rw [List.getD_eq_getElem?_getD, List.getElem?_map, List.getElem?_range (by omega)]
      rfl
    refine zW_size (fun hu => ?_)
    have hqa := znew_at hm hP hD hz (by omega)
    subst hqa
    rw [zwl_push hwf he] at hP
    have k1 := kk H1 locs lsC (cells + 1) (slots + r.2.2) ⟨hP, hS⟩ hl (by show cells + 1 + m.2.1.length = cells + (zalloc m (a + 3) (zNf a)).2.1.length; rw [zalloc_len]; omega) (by show slots + r.2.2 + m.1 = slots + (m.1 + zNf a); omega)
    rw [show (Value.ref m.2.1.length :: st).map (zv b h0) = zv b h0 (.ref m.2.1.length) :: st.map (zv b h0) from rfl, zv_new hm] at k1
    exact k1
  next => cases h
theorem zs_acopy {i w : Nat} (hd : decode (zB y) pc = .ok (.invokestatic i, 3)) (hzw : zw w (.methodLink (zOw y) i arraycopyName) = true) (hg : goodWord (.methodLink (zOw y) i arraycopyName) = true) (hF : 1 ≤ zF y) (hO : 26 ≤ zO y) (h : zacopy pc ls st m = some (.inl q)) : zSp D cA b h0 X HL y pc ls st m q := by
  unfold zacopy at h
  split at h
  next nn dp d sp t st =>
    split at h
    next hc0 =>
      obtain ⟨ht, hdd, h1, h2, h3, h4, h5, h6, h7, h8⟩ := hc0
      subst h8
      cases zgo_inv h
      intro l p e R s mi args below meth c H locs cells slots Q lsC hc hw hz hl hk1 hk2 kk
      have hct := zwl_get (cA := cA) (h0 := h0) ht h1 (by omega)
      rw [zent_0 h1] at hct
      have hcd := zwl_get (cA := cA) (h0 := h0) hdd h2 (by omega)
      rw [zent_0 h2] at hcd
      have hml : c.maxLocals = lsC.size := by rw [hc.2.2.1]; exact hl.1.1.symm
      show W p l _ R s mi args below meth c H locs cells slots Q (F0 mi pc lsC (.int nn :: .int dp :: .ref (zad b h0 d) :: .int sp :: .ref (zad b h0 t) :: []))
      rw [zad_ne ht, zad_ne hdd]
      refine va_copyi hc.1 hc.2.1 hml hc.2.2.2.1 (hc.2.2.2.2.1 _ (zTT_mem hzw hg)) (hc.2.2.2.2.1 _ (zTT_mem zw_sn rfl)) (hc.2.2.2.2.1 _ (zTT_mem zw_ss rfl)) (hc.2.2.2.2.1 _ (zTT_mem zw_si rfl)) hc.2.2.2.2.2.1.1 hw.1 (zwl_D cA h0 m) hw.2 (t - 1) (d - 1) 0 0 hct hcd rfl rfl rfl h3 h4 h5 h6 h7 (fun _ _ => rfl) (Nat.le_trans hF hc.2.2.2.2.2.2.1) ?_ hd (fun H1 locs1 hP hD hS => ?_)
      · have h9 : nativeFrameWords "java/lang/System" "arraycopy" 5 = 7 := by decide
        rw [h9]
        have h10 := hc.2.2.2.2.2.2.2.1
        show 0 + (7 + 11) ≤ R.locals
        omega
      · refine kk H1 locs1 lsC cells slots (zmem_sI hdd ?_ hP hS) hl rfl rfl
        have h2' : zKi (zsI m d (va_cpy (zI m t) (zI m d) sp.toNatClampNeg dp.toNatClampNeg nn.toNatClampNeg)) d = 0 := h2
        rw [zent_0 h2', zsI_self]
        rfl
    next => cases h
  next => cases h
theorem zcat_sum (st : List Value) : ((st.map (zv b h0)).map fun v => v.category).sum = (st.map fun v => v.category).sum := by
  rw [List.map_map]
  congr 2
  funext v
  exact zv_cat b h0 v
theorem zs_min {i w : Nat} (hd : decode (zB y) pc = .ok (.invokestatic i, 3)) (hzw : zw w (.methodLink (zOw y) i Lib.Math.min.name) = true) (hg : goodWord (.methodLink (zOw y) i Lib.Math.min.name) = true) (hF : 1 ≤ zF y) (hO : 21 ≤ zO y) (h : zmin pc ls st m = some (.inl q)) : zSp D cA b h0 X HL y pc ls st m q := by
  unfold zmin at h
  split at h
  next yv xv st =>
    split at h
    next hs =>
      cases zgo_inv h
      intro l p e R s mi args below meth c H locs cells slots Q lsC hc hw hz hl hk1 hk2 kk
      have hml : c.maxLocals = lsC.size := by rw [hc.2.2.1]; exact hl.1.1.symm
      have h10 := hc.2.2.2.2.2.2.2.1
      have hk1 : cells + m.2.1.length ≤ R.cells + m.2.1.length := hk1
      have hk2 : slots + m.1 ≤ R.slots + m.1 := hk2
      refine va_mmin hc.1 hc.2.1 hml hc.2.2.2.1 (hc.2.2.2.2.1 _ (zTT_mem hzw hg)) (hc.2.2.2.2.1 _ (zTT_mem zw_ms rfl)) (hc.2.2.2.2.1 _ (zTT_mem zw_mi rfl)) (hc.2.2.2.2.1 _ (zTT_mem zw_mc rfl)) (Nat.le_trans hF hc.2.2.2.2.2.2.1) ?_ (by omega) (by omega) hd (kk H locs lsC cells slots hw hl rfl rfl)
      rw [zcat_sum]
      omega
    next => cases h
  next => cases h
theorem zs_oinit {i w : Nat} (hd : decode (zB y) pc = .ok (.invokespecial i, 3)) (hzw : zw w (.methodLink (zOw y) i objectInit) = true) (hg : goodWord (.methodLink (zOw y) i objectInit) = true) (hF : 1 ≤ zF y) (hO : 20 ≤ zO y) (h : zoinit pc ls st m = some (.inl q)) : zSp D cA b h0 X HL y pc ls st m q := by
  unfold zoinit at h
  split at h
  next t st =>
    split at h
    next hs =>
      cases zgo_inv h
      intro l p e R s mi args below meth c H locs cells slots Q lsC hc hw hz hl hk1 hk2 kk
      have h10 := hc.2.2.2.2.2.2.2.1
      refine W.objInit hc.1 hc.2.1 hc.2.2.2.1 (hc.2.2.2.2.1 _ (zTT_mem hzw hg)) (hc.2.2.2.2.1 _ (zTT_mem zw_oi rfl)) (hc.2.2.2.2.1 _ (zTT_mem zw_oc rfl)) rfl (by rw [hc.2.2.1]; exact hl.1.1) rfl hd (Nat.le_trans hF hc.2.2.2.2.2.2.1) ?_ ?_
      · rw [zcat_sum]
        show 2 * 0 + _ + 12 ≤ R.locals
        omega
      · exact kk H locs lsC cells slots hw hl rfl rfl
    next => cases h
  next => cases h
end ZU
