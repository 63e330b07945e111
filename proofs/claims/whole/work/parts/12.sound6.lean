/-! THE PURE MACHINE IS SOUND, part 6: calls, answers, runs -/
def zEnd (y pc : Nat) (v : Option Value) : Prop := (v = none ∧ decode (zB y) pc = .ok (.return_, 1) ∧ zRt y = none) ∨ ∃ x : Int32, v = some (.int x) ∧ decode (zB y) pc = .ok (.ireturn, 1) ∧ (zRt y = some .int ∨ (zRt y = some .boolean ∧ (x = 0 ∨ x = 1)))
def zvo (b h0 : Nat) (v : Option Value) : Option Value := v.map (zv b h0)
/-- a run from here answers v and leaves the memory m' -/
def zSr (D : va_G) (cA : Nat → ClassId) (b h0 : Nat) (X : Nat × (Nat → Int32)) (HL : Heap) (y pc : Nat) (ls st : List Value) (m : zM) (v : Option Value) (m' : zM) : Prop :=
  ∀ (l : Launch) (p : Program) (e : Env) (R : Room) (s : State) (mi : MethodId) (args : Array Value) (below : List Frame) (meth : Method) (c : Code) (H : Heap) (locs : List Loc) (cells slots : Nat) (Q : State → Prop) (lsC : Array Slot),
    zCx D cA b h0 X HL y p R s mi args meth c → zWd D cA h0 HL m H locs → s.heap.size + cells = h0 + m.2.1.length → zLs b h0 (zL y) lsC ls → cells + m'.2.1.length ≤ R.cells + m.2.1.length → slots + m'.1 ≤ R.slots + m.1 →
    (∀ (H' : Heap) (locs' : List Loc) (lsC' : Array Slot) (cells' slots' pc' : Nat), zWd D cA h0 HL m' H' locs' → cells' + m.2.1.length = cells + m'.2.1.length → slots' + m.1 = slots + m'.1 → zEnd y pc' v →
      W p l e R s mi args below meth c H' locs' cells' slots' Q (F0 mi pc' lsC' (zvo b h0 v).toList)) →
    W p l e R s mi args below meth c H locs cells slots Q (F0 mi pc lsC (st.map (zv b h0)))
def zQc (D : va_G) (cA : Nat → ClassId) (b h0 : Nat) (HL : Heap) (v : Option Value) (m' : zM) : Array Value → State → Outcome → State → Prop := fun _ _ oc t => oc = .returned (zvo b h0 v) ∧ va_P D zcl (zwl cA h0 m') t.heap ∧ va_S (zAf h0) HL t.heap []
def zPc (D : va_G) (cA : Nat → ClassId) (b h0 : Nat) (X : Nat × (Nat → Int32)) (HL : Heap) (m : zM) (args : List Value) : Array Value → State → Prop := va_Pc (args.map (zv b h0)) (fun U => U.heap.size = h0 + m.2.1.length ∧ va_P D zcl (zwl cA h0 m) U.heap ∧ va_S (zAf h0) HL U.heap [] ∧ zEnv D cA b h0 X HL U)
section ZX
variable {D : va_G} {cA : Nat → ClassId} {b h0 : Nat} {X : Nat × (Nat → Int32)} {HL : Heap}
theorem zEnv_same {u U : State} (h : u.vm = U.vm) (z : zEnv D cA b h0 X HL u) : zEnv D cA b h0 X HL U :=
  ⟨va_K.moved (h ▸ Vm.Alike.refl u.vm) z.1, zNW_same h z.2.1, va_X.moved (h ▸ Vm.Alike.refl u.vm) z.2.2.1, z.2.2.2⟩
theorem zEnv_warm {u U : State} (h : u.WarmedH U.vm) (z : zEnv D cA b h0 X HL u) : zEnv D cA b h0 X HL U :=
  ⟨va_K.moved h.alike z.1, zNW_warm h z.2.1, va_X.moved h.alike z.2.2.1, z.2.2.2⟩
theorem zPc_blind {m : zM} {args : List Value} : FrameBlind (zPc D cA b h0 X HL m args) := by
  intro a U g mk q
  obtain ⟨q1, q2, q3, q4, q5⟩ := q
  exact ⟨q1, q2, q3, q4, zEnv_same (u := U) (U := U.calling g mk a) rfl q5⟩
/-- the locals with which a method begins -/
theorem zEn_args {b h0 : Nat} (r : Nat) : ∀ (args : List Value) (j : Nat) (w : Nat × Value), w ∈ zll b h0 j ((args.flatMap fun v => if v.category = 2 then [v, .null] else [v]) ++ List.replicate r .null) → w ∈ lv_args j (args.map (zv b h0))
  | [], j, w, h => by
    obtain ⟨a, x⟩ := w
    obtain ⟨-, v, h1, h2, -⟩ := (zll_mem _ j a x).mp h
    have := List.mem_of_getElem? h1
    rw [List.flatMap_nil, List.nil_append] at this
    exact absurd (List.eq_of_mem_replicate this) h2
  | v :: vs, j, w, h => by
    rw [List.flatMap_cons, List.append_assoc] at h
    rw [List.map_cons]
    unfold lv_args
    rw [zv_cat]
    by_cases hc : v.category = 2
    · rw [if_pos hc] at h ⊢
      have hv : v ≠ .null := fun e => by rw [e] at hc; cases hc
      simp only [List.cons_append, List.nil_append] at h
      unfold zll at h
      rw [if_neg hv] at h
      unfold zll at h
      rw [if_pos rfl] at h
      rcases List.mem_cons.mp h with h | h
      · exact List.mem_cons.mpr (Or.inl h)
      · exact List.mem_cons_of_mem _ (zEn_args r vs (j + 1 + 1) w h)
    · rw [if_neg hc] at h ⊢
      simp only [List.cons_append, List.nil_append] at h
      unfold zll at h
      by_cases hv : v = .null
      · rw [if_pos hv] at h
        exact List.mem_cons_of_mem _ (zEn_args r vs (j + 1) w h)
      · rw [if_neg hv] at h
        rcases List.mem_cons.mp h with h | h
        · exact List.mem_cons.mpr (Or.inl h)
        · exact List.mem_cons_of_mem _ (zEn_args r vs (j + 1) w h)
theorem zEn_len {b h0 : Nat} (args : List Value) : (lg_sl (args.map (zv b h0))).length = (args.flatMap fun v => if v.category = 2 then [v, Value.null] else [v]).length := by
  induction args with
  | nil => rfl
  | cons v vs ih =>
    have e : lg_sl ((v :: vs).map (zv b h0)) = (if v.category = 2 then [Slot.val (zv b h0 v), Slot.second] else [Slot.val (zv b h0 v)]) ++ lg_sl (vs.map (zv b h0)) := by
      unfold lg_sl
      rw [List.map_cons, List.flatMap_cons, zv_cat]
    rw [e, List.flatMap_cons, List.length_append, List.length_append, ih]
    by_cases hc : v.category = 2
    · rw [if_pos hc, if_pos hc]; rfl
    · rw [if_neg hc, if_neg hc]; rfl
theorem zEn_ls {k : Nat} {args : List Value} (h : (zEn k args).length = zL k) : zLs b h0 (zL k) ((lg_sl (args.map (zv b h0)) ++ List.replicate (zL k - (lg_sl (args.map (zv b h0))).length) Slot.unset).toArray) (zEn k args) := by
  refine ⟨?_, h⟩
  have h1 : (lg_sl (args.map (zv b h0))).length ≤ zL k := by
    rw [zEn_len, ← h]
    unfold zEn
    rw [List.length_append]
    omega
  have h2 := lv_entry (args.map (zv b h0)) h1
  refine ⟨h2.1, h2.2.1, fun w hw => h2.2.2 w ?_⟩
  unfold zEn at hw
  exact zEn_args _ args 0 w hw
/-- a method's facts -/
theorem zMk_ok {k : Nat} (h : k < 187) : Cond.code (zN k) (zB k) (zL k) (zRt k) ∈ zTT ∧ Cond.initialized (zOw k) ∈ zTT ∧ ((zN k).cls ≠ "java/lang/invoke/MethodHandle" ∧ (zN k).cls ≠ "java/lang/invoke/VarHandle") ∧ (∀ sig, parseMethodDescriptor (zN k).desc = some sig → zA k - (if zSt k then 0 else 1) = sig.parameters.length) ∧ plainFor (zN k) = true ∧
    (zSt k = true → Cond.static (zN k) ∈ zTT) ∧ (zSt k = false → Cond.instanceMethod (zN k) ∈ zTT ∧ (zini k = false → Cond.selects (zOw k) (zN k) (zN k) ∈ zTT) ∧ zCn k < 11 ∧ zCl (zCn k) = zOw k ∧ 1 ≤ zA k) := by
  have h1 := List.all_eq_true.mp zMk_all k (List.mem_range.mpr h)
  unfold zMk at h1
  simp only [Bool.and_eq_true, decide_eq_true_eq] at h1
  obtain ⟨⟨⟨⟨⟨⟨⟨g1, g2⟩, g3⟩, g4⟩, g5⟩, g6⟩, g7⟩, g8⟩ := h1
  refine ⟨zTT_in (zCd_ok h) rfl, zTT_mem g2 g3, ⟨g4, g5⟩, fun sig hs => ?_, g7, fun hz => ?_, fun hz => ?_⟩
  · rw [hs] at g6
    exact (Option.some.inj g6).symm
  · rw [hz, if_pos rfl] at g1
    simp only [Bool.and_eq_true] at g1
    exact zTT_mem g1.1 g1.2
  · rw [hz] at g1 g8
    simp only [Bool.false_eq_true, if_false, Bool.and_eq_true, Bool.or_eq_true, Bool.false_or, decide_eq_true_eq] at g1 g8
    refine ⟨zTT_mem g1.1.1 g1.1.2, fun hi => ?_, g8.1.1, g8.1.2, g8.2⟩
    rcases g1.2 with g | g
    · rw [hi] at g; cases g
    · exact zTT_mem g.1 g.2
/-- THE CONTRACT of a method, out of a pure run of its body -/
theorem zMet {l : Launch} {k : Nat} {args : List Value} {m m' : zM} {v : Option Value} (hk : k < 187) (he : (zEn k args).length = zL k) (hS : zSr D cA b h0 X HL k 0 (zEn k args) [] m v m') (hm1 : m.2.1.length ≤ m'.2.1.length) (hm2 : m.1 ≤ m'.1) :
    Met l (zN k) (.code (zN k) (zB k) (zL k) (zRt k) :: zTT) { frames := zF k, cells := m'.2.1.length - m.2.1.length, slots := m'.1 - m.1, locals := zO k } (zPc D cA b h0 X HL m args) (zQc D cA b h0 HL v m') (m'.2.1.length - m.2.1.length) (m'.1 - m.1) (zAf h0) := by
  obtain ⟨-, -, -, -, hpl, -⟩ := zMk_ok hk
  refine MetFree.of_bodySF (code := zB k) (maxLocals := zL k) (ret := zRt k) hpl ?_ ?_
  · intro args s m h hn
    obtain ⟨meth, c, h1, h2, h3, h4, h5, h6, -, -⟩ := Cond.code_spec hn (atoms_spec (ws := .code (zN k) (zB k) (zL k) (zRt k) :: zTT) h _ List.mem_cons_self)
    exact ⟨meth, c, h1, h2, h3, h4, h5, h6⟩
  · intro p e s mi args' below meth c s₁ B hml hP _
    obtain ⟨rfl, hsz, hw, hva, henv⟩ := hP
    have hh0 : s₁.heap = s.heap := by rw [B.state]; rfl
    have hts := atoms_spec (ws := .code (zN k) (zB k) (zL k) (zRt k) :: zTT) B.pre
    have hlocks := B.notSynchronized
    have hret := B.returns
    have hcx : zCx D cA b h0 X HL k p { frames := zF k, cells := m'.2.1.length - m.2.1.length, slots := m'.1 - m.1, locals := zO k } s mi (args.map (zv b h0)).toArray meth c :=
      ⟨B.exec, B.bytes, hml, findClass_of_methodNamed B.named, fun w hw => hts w (List.mem_cons_of_mem _ hw), henv, Nat.le_refl _, Nat.le_refl _, fun hi => by
        have h1 := (name_of_methodNamed B.named B.method).1
        rw [h1]
        exact of_decide_eq_true hi⟩
    have hbody := hS l p e { frames := zF k, cells := m'.2.1.length - m.2.1.length, slots := m'.1 - m.1, locals := zO k } s mi (args.map (zv b h0)).toArray below meth c s.heap [] 0 0 (MQ below (zQc D cA b h0 HL v m') (args.map (zv b h0)).toArray s (m'.2.1.length - m.2.1.length) (m'.1 - m.1) (zAf h0)) _
      hcx ⟨hw, hva⟩ (by omega) (zEn_ls he) (by show 0 + _ ≤ (m'.2.1.length - m.2.1.length) + _; omega) (by show 0 + _ ≤ (m'.1 - m.1) + _; omega) (fun H' locs' lsC' cells' slots' pc' hw' hc' hs' hend => by
        have e1 : cells' = m'.2.1.length - m.2.1.length := by omega
        have e2 : slots' = m'.1 - m.1 := by omega
        subst e1
        subst e2
        have hfr : ∀ t : State, t.heap = H' → va_P D zcl (zwl cA h0 m') t.heap ∧ va_S (zAf h0) HL t.heap [] := fun t ht => by
          rw [ht]
          exact ⟨hw'.1, hw'.2.1, hw'.2.2.1, fun _ h => by cases h⟩
        rcases hend with ⟨rfl, hd, hr⟩ | ⟨x, rfl, hd, hr⟩
        · exact W.vret B.exec B.bytes (hret.trans hr) (fun t ht _ => ⟨rfl, hfr t ht⟩) hw'.2.2.2 hd hlocks
        · rcases hr with hr | ⟨hr, hx⟩
          · exact W.iret (v := x) B.exec B.bytes (hret.trans hr) (fun t ht _ => ⟨rfl, hfr t ht⟩) hw'.2.2.2 hd hlocks
          · exact W.zret (v := x) B.exec B.bytes (hret.trans hr) (by rcases hx with hx | hx <;> subst hx <;> rfl) (fun t ht _ => ⟨rfl, hfr t ht⟩) hw'.2.2.2 hd hlocks)
    rw [lg_entry_eq]
    obtain ⟨t, a1, o, b1, b2, b3⟩ := hbody s₁ hh0 (Stand.of_body B)
    exact ⟨t, o, a1, b1, b2, ⟨b3.1, b3.2⟩⟩
end ZX
section ZY
variable {p : Program} {l : Launch} {e : Env} {R : Room} {s : State} {mi : MethodId} {args : Array Value} {below : List Frame} {meth : Method} {c : Code} {H : Heap} {locs : List Loc} {cells slots : Nat} {Q : State → Prop}
variable {D : va_G} {cA : Nat → ClassId} {b h0 : Nat} {X : Nat × (Nat → Int32)} {HL : Heap}
/-- behind a call -/
theorem zrun_go {pc mc ms : Nat} {lsC : Array Slot} {stC restC : List Value} {v : Option Value} {m m1 : zM} {a : Array Value} (hr : va_Run p l e R s mi args below meth c H locs cells slots mc ms (F0 mi pc lsC stC) restC (zQc D cA b h0 HL v m1 a) (zAf h0)) (hw : zWd D cA h0 HL m H locs)
    (kk : ∀ (H1 : Heap) (locs1 : List Loc), zWd D cA h0 HL m1 H1 locs1 → W p l e R s mi args below meth c H1 locs1 (cells + mc) (slots + ms) Q (F0 mi (pc + 3) lsC ((zvo b h0 v).toList ++ restC))) : W p l e R s mi args below meth c H locs cells slots Q (F0 mi pc lsC stC) := by
  intro T hT X0
  obtain ⟨v', st₀, t, T', L, h0', X', hL, e1, e2, ⟨hv, hP, hS⟩, st⟩ := hr T hT X0
  cases hv
  obtain ⟨t2, a1, b1⟩ := kk T'.heap (locs ++ L) ⟨by rw [e1]; exact hP, by rw [e1]; exact hS.1, by rw [e1]; exact hS.2.1, fun q hq => by
      rcases List.mem_append.mp hq with h | h
      · exact hw.2.2.2 q h
      · exact hL q h⟩ T' rfl X'
  exact ⟨t2, st t2 a1, b1⟩
theorem zws_in {k : Nat} (hk : k < 187) {w : Cond} (hw : w ∈ (Cond.code (zN k) (zB k) (zL k) (zRt k) :: zTT)) : w ∈ zTT := by
  rcases List.mem_cons.mp hw with rfl | hw
  · exact (zMk_ok hk).1
  · exact hw
theorem zTT_pay (hts : ∀ w ∈ zTT, w.before args s = true) {w : Cond} (hw : w ∈ zTT) : ∀ (a' : Array Value) (U : State), s.WarmedH U.vm → w.before a' U = true := fun a' U hW => word_at hW (good_of_word (List.mem_filter.mp hw).2) (hts w hw)
theorem zins_call {y pc k a bb w n : Nat} {i : Instr} {ls st As rest : List Value} {m : zM} (hi : zins X y (i, n, a, bb, w) pc ls st m = some (.inr (.inr (k, As, rest)))) :
    zcall a st m = some (.inr (.inr (k, As, rest))) ∧ ((∃ j, i = .invokevirtual j) ∨ (∃ j, i = .invokespecial j ∧ a ≠ 1000) ∨ (∃ j, i = .invokestatic j ∧ a ≠ 1001 ∧ a ≠ 1002)) := by
  cases i with
  | invokevirtual j => exact ⟨hi, Or.inl ⟨j, rfl⟩⟩
  | invokespecial j =>
    have h2 : (if a = 1000 then zoinit pc ls st m else zcall a st m) = some (.inr (.inr (k, As, rest))) := hi
    split at h2
    next =>
      unfold zoinit at h2
      split at h2
      next =>
        split at h2
        next => cases h2
        next => cases h2
      next => cases h2
    next ha => exact ⟨h2, Or.inr (Or.inl ⟨j, rfl, ha⟩)⟩
  | invokestatic j =>
    have h2 : (if a = 1001 then zacopy pc ls st m else if a = 1002 then zmin pc ls st m else zcall a st m) = some (.inr (.inr (k, As, rest))) := hi
    split at h2
    next =>
      unfold zacopy at h2
      split at h2
      next =>
        split at h2
        next => cases h2
        next => cases h2
      next => cases h2
    next ha =>
      split at h2
      next =>
        unfold zmin at h2
        split at h2
        next =>
          split at h2
          next => cases h2
          next => cases h2
        next => cases h2
      next ha2 => exact ⟨h2, Or.inr (Or.inr ⟨j, rfl, ha, ha2⟩)⟩
  | ireturn =>
    exfalso
    have h2 : zret y st m = some (.inr (.inr (k, As, rest))) := hi
    unfold zret at h2
    split at h2
    next =>
      split at h2
      next => cases h2
      next =>
        split at h2
        next => cases h2
        next => cases h2
      next => cases h2
    next => cases h2
  | return_ =>
    exfalso
    have h2 : (if st = [] ∧ zRt y = none then (some (.inr (.inl (none, m))) : zRes) else none) = some (.inr (.inr (k, As, rest))) := hi
    split at h2
    next => cases h2
    next => cases h2
  | newarray t =>
    cases t <;> first | (cases hi; done) | (exfalso; unfold zins at hi; dsimp only at hi; unfold znewa at hi; (repeat' (split at hi)) <;> (first | (cases hi; done)))
  | _ =>
    first
    | (cases hi; done)
    | (exfalso; unfold zins at hi; dsimp only at hi; (try unfold zlda at hi); (try unfold zld at hi); (try unfold zldl at hi); (try unfold zst at hi); (try unfold zsta at hi); (try unfold zstl at hi); (try unfold zget at hi); (try unfold zput at hi); (try unfold ziald at hi); (try unfold zbald at hi); (try unfold zaald at hi); (try unfold ziast at hi); (try unfold zbast at hi); (try unfold zaast at hi); (try unfold zalen at hi); (try unfold znewa at hi); (try unfold znew at hi); (try unfold zi2 at hi); (try unfold zl2 at hi); (try unfold zl1 at hi); (try unfold zinc at hi); (try unfold zbr at hi); (repeat' (split at hi)) <;> (first | (cases hi; done)))
theorem zcall_inv {k a : Nat} {st As rest : List Value} {m : zM} (h : zcall a st m = some (.inr (.inr (k, As, rest)))) : a = k ∧ st = As.reverse ++ rest ∧ As.length = zA k ∧ (rest.map fun v => v.category).sum ≤ 8 ∧ k < 187 ∧ 0 < m.2.1.length ∧ (zEn k As).length = zL k ∧ (zSt k = true ∨ zrcv k st m = true) := by
  unfold zcall at h
  split at h
  next hc =>
    cases h
    obtain ⟨h1, h2, h3, h4, h5, h6⟩ := hc
    exact ⟨rfl, by rw [List.reverse_reverse, List.take_append_drop], by rw [List.length_reverse, List.length_take]; omega, h2, h3, h4, h5, h6⟩
  next => cases h
theorem zml_ok {y i k w : Nat} (h : zml y i k w = true) : zF k + 1 ≤ zF y ∧ 8 + (zL k + 11) + zO k ≤ zO y ∧ (Cond.methodLink (zOw y) i (zN k) ∈ zTT ∨ Cond.methodLinkNest (zOw y) i (zN k) "FiveInks" ∈ lw_tbl) := by
  unfold zml at h
  simp only [Bool.and_eq_true, Bool.or_eq_true, decide_eq_true_eq] at h
  obtain ⟨⟨⟨-, h2⟩, h3⟩, h4⟩ := h
  refine ⟨h2, h3, ?_⟩
  rcases h4 with h4 | h4
  · exact Or.inl (zTT_mem h4.1 h4.2)
  · exact Or.inr (zw_in h4)
/-- a call of the pure machine is one of the real one -/
theorem zs_call {y pc k : Nat} {r : zRow} {ls st As rest : List Value} {lsC : Array Slot} {m m1 : zM} {v : Option Value} (hc : zCx D cA b h0 X HL y p R s mi args meth c) (hw : zWd D cA h0 HL m H locs) (hz : s.heap.size + cells = h0 + m.2.1.length) (hl : zLs b h0 (zL y) lsC ls)
    (hr : zT y pc = some r) (hi : zins X y r pc ls st m = some (.inr (.inr (k, As, rest)))) (hS : zSr D cA b h0 X HL k 0 (zEn k As) [] m v m1) (hm1 : m.2.1.length ≤ m1.2.1.length) (hm2 : m.1 ≤ m1.1) (hb1 : cells + m1.2.1.length ≤ R.cells + m.2.1.length) (hb2 : slots + m1.1 ≤ R.slots + m.1)
    (kk : ∀ (H1 : Heap) (locs1 : List Loc), zWd D cA h0 HL m1 H1 locs1 → W p l e R s mi args below meth c H1 locs1 (cells + (m1.2.1.length - m.2.1.length)) (slots + (m1.1 - m.1)) Q (F0 mi (pc + 3) lsC ((zvo b h0 v).toList ++ rest.map (zv b h0)))) :
    W p l e R s mi args below meth c H locs cells slots Q (F0 mi pc lsC (st.map (zv b h0))) := by
  have ok := zT_ok hr
  obtain ⟨i, n, a, bb, w⟩ := r
  unfold zOK at ok
  simp only [Bool.and_eq_true, decide_eq_true_eq] at ok
  obtain ⟨⟨hd, hn⟩, hrw⟩ := ok
  obtain ⟨hcl, hkind⟩ := zins_call hi
  obtain ⟨hak, hst, hAl, hsum, hk, hK0, hEn, hrcv⟩ := zcall_inv hcl
  subst hak
  obtain ⟨hcode, hinit, hnm, hpar, -, hstat, hinst⟩ := zMk_ok hk
  obtain ⟨hx, hb, hml, hown, hts, henv, hFr, hLo, -⟩ := hc
  refine zW_size (fun hu => ?_)
  have hsz := zWd_size hw henv.2.2.2.1 hK0 hz hu
  have hMet := zMet (l := l) (D := D) (cA := cA) (b := b) (h0 := h0) (X := X) (HL := HL) hk hEn hS hm1 hm2
  have hU : ∀ U : State, U.heap = H → s.WarmedH U.vm → zPc D cA b h0 X HL m As (As.map (zv b h0)).toArray U := fun U e1 e2 =>
    ⟨rfl, by rw [e1]; exact hsz, by rw [e1]; exact hw.1, ⟨by rw [e1]; exact hw.2.1, by rw [e1]; exact hw.2.2.1, fun _ z => by cases z⟩, zEnv_warm e2 henv⟩
  have hws : ∀ w ∈ (Cond.code (zN a) (zB a) (zL a) (zRt a) :: zTT), ∀ (a' : Array Value) (U : State), s.WarmedH U.vm → w.before a' U = true := fun w hw9 => zTT_pay hts (zws_in hk hw9)
  have hS0 : CallFix p mi c (zB y) (zL y) s args zTT (zOw y) := ⟨hx, hb, hml, hown, hts⟩
  have hroom : cells + (m1.2.1.length - m.2.1.length) ≤ R.cells ∧ slots + (m1.1 - m.1) ≤ R.slots := ⟨by omega, by omega⟩
  have hcs : 2 * (F0 mi pc lsC (st.map (zv b h0))).monitorRoom + ((rest.map (zv b h0)).map fun v => v.category).sum ≤ 8 := by
    rw [zcat_sum]
    show 2 * 0 + _ ≤ 8
    omega
  have hsize : (F0 mi pc lsC (st.map (zv b h0))).locals.size = zL y := hl.1.1
  -- the receiver
  have hrecv : zSt a = false → ∃ t As', As = .ref t :: As' ∧ t ≠ 0 ∧ zKi m t = zCn a + 3 := by
    intro hz9
    rcases hrcv with h9 | h9
    · rw [hz9] at h9; cases h9
    · unfold zrcv at h9
      split at h9
      next t e9 =>
        simp only [Bool.and_eq_true, decide_eq_true_eq] at h9
        rw [hst, ← hAl, ← List.length_reverse, List.take_left] at e9
        rw [List.getLast?_reverse] at e9
        obtain ⟨As', rfl⟩ : ∃ z, As = .ref t :: z := by
          cases As with
          | nil => cases e9
          | cons q z => exact ⟨z, by rw [show q = .ref t from Option.some.inj e9]⟩
        exact ⟨t, As', rfl, h9.1, h9.2⟩
      next => cases h9
  have hpv : ∀ t As', As = .ref t :: As' → t ≠ 0 → zKi m t = zCn a + 3 → zCn a < 11 → zCl (zCn a) = zOw a → PreV s H (zOw a) (h0 + t) (zPc D cA b h0 X HL m As) (As'.map (zv b h0)) := by
    intro t As' e9 ht hki hc11 hcl9
    obtain ⟨r, er, -⟩ := zCk_ok hc11
    have hcell := zwl_get (cA := cA) (h0 := h0) ht hki (by omega)
    rw [zent_3 hki] at hcell
    have h8 := va_recv henv.1 hw.1 er hcell
    have e8 : r.1 = zOw a := by
      rw [← hcl9]
      unfold zCl
      rw [er]
    rw [e8] at h8
    refine ⟨zPc_blind, h8, fun U e1 e2 => ?_⟩
    have h7 := hU U e1 e2
    rw [e9, List.map_cons] at h7
    rw [e9]
    have e6 : zv b h0 (.ref t) = .ref (h0 + t) := by
      show Value.ref (zad b h0 t) = _
      rw [zad_ne ht]
    rw [e6] at h7
    exact h7
  have hstk : ∀ t As', As = .ref t :: As' → t ≠ 0 → st.map (zv b h0) = (As'.map (zv b h0)).reverse ++ .ref (h0 + t) :: rest.map (zv b h0) := by
    intro t As' e9 ht
    rw [hst, e9, List.reverse_cons, List.map_append, List.map_append, List.map_reverse]
    have e6 : [Value.ref t].map (zv b h0) = [.ref (h0 + t)] := by
      show [Value.ref (zad b h0 t)] = _
      rw [zad_ne ht]
    rw [e6, List.append_assoc]
    rfl
  have harr : ∀ t As', As = .ref t :: As' → t ≠ 0 → (Value.ref (h0 + t) :: As'.map (zv b h0)) = As.map (zv b h0) := by
    intro t As' e9 ht
    rw [e9, List.map_cons]
    show _ = Value.ref (zad b h0 t) :: _
    rw [zad_ne ht]
  rcases hkind with ⟨j, rfl⟩ | ⟨j, rfl, hne⟩ | ⟨j, rfl, hne1, hne2⟩
  · cases zn1 hn rfl
    unfold zRw at hrw
    simp only [Bool.and_eq_true, Bool.not_eq_true'] at hrw
    obtain ⟨⟨hmlk, hst0⟩, hin0⟩ := hrw
    obtain ⟨hf1, hf2, hlk⟩ := zml_ok hmlk
    obtain ⟨hi1, hi2, hc11, hcl9, hA1⟩ := hinst hst0
    obtain ⟨t, As', e9, ht, hki⟩ := hrecv hst0
    have hlen : (As'.map (zv b h0)).length = zA a - (if zSt a then 0 else 1) := by
      rw [hst0, List.length_map]
      rw [e9] at hAl
      simp at hAl ⊢
      omega
    rcases hlk with hlk | hlk
    · have hrun := va_runV (locs := locs) (H := H) (below := below) (meth := meth) (e := e) (g := F0 mi pc lsC (st.map (zv b h0))) (rest := rest.map (zv b h0)) hS0 hMet ⟨⟨rfl, rfl, by show zF a + 1 ≤ R.frames; omega, by show 8 + (zL a + 11) + zO a ≤ R.locals; omega, hws, List.mem_cons_self, hts _ hcode, hts _ hinit, hnm, hpar, hts _ hlk⟩, hts _ hi1, hts _ (hi2 hin0)⟩ (hpv t As' e9 ht hki hc11 hcl9) rfl hlen hsize (hstk t As' e9 ht) hcs hd hroom
      rw [harr t As' e9 ht] at hrun
      exact zrun_go hrun hw kk
    · have hrun := va_runVN (locs := locs) (H := H) (below := below) (meth := meth) (e := e) (g := F0 mi pc lsC (st.map (zv b h0))) (rest := rest.map (zv b h0)) hS0 hMet ⟨⟨⟨rfl, rfl, by show zF a + 1 ≤ R.frames; omega, by show 8 + (zL a + 11) + zO a ≤ R.locals; omega, hws, List.mem_cons_self⟩, hts _ hcode, hts _ hinit, hnm, hpar, va_Nw.use rfl (henv.2.1.1 _ hlk rfl)⟩, hts _ hi1, hts _ (hi2 hin0)⟩ (hpv t As' e9 ht hki hc11 hcl9) rfl hlen hsize (hstk t As' e9 ht) hcs hd hroom
      rw [harr t As' e9 ht] at hrun
      exact zrun_go hrun hw kk
  · cases zn1 hn rfl
    unfold zRw at hrw
    dsimp only at hrw
    rw [if_neg hne] at hrw
    simp only [Bool.and_eq_true, Bool.not_eq_true', decide_eq_true_eq] at hrw
    obtain ⟨⟨⟨hmlk, hst0⟩, hin0⟩, hrt⟩ := hrw
    obtain ⟨hf1, hf2, hlk⟩ := zml_ok hmlk
    obtain ⟨hi1, -, hc11, hcl9, hA1⟩ := hinst hst0
    obtain ⟨t, As', e9, ht, hki⟩ := hrecv hst0
    have hlen : (As'.map (zv b h0)).length = zA a - (if zSt a then 0 else 1) := by
      rw [hst0, List.length_map]
      rw [e9] at hAl
      simp at hAl ⊢
      omega
    have hyn : (zN a).name = "<init>" := of_decide_eq_true hin0
    rw [hrt] at hMet hws hcode
    have hp9 := hpv t As' e9 ht hki hc11 hcl9
    rcases hlk with hlk | hlk
    · have hrun := va_runI (locs := locs) (H := H) (below := below) (meth := meth) (e := e) (g := F0 mi pc lsC (st.map (zv b h0))) (rest := rest.map (zv b h0)) hS0 hMet ⟨⟨rfl, rfl, by show zF a + 1 ≤ R.frames; omega, by show 8 + (zL a + 11) + zO a ≤ R.locals; omega, hws, List.mem_cons_self, hts _ hcode, hts _ hinit, hnm, hpar, hts _ hlk⟩, hyn, hts _ hi1⟩ ⟨hp9.1, hp9.2.2⟩ rfl hlen hsize (hstk t As' e9 ht) hcs hd hroom
      rw [harr t As' e9 ht] at hrun
      exact zrun_go hrun hw kk
    · have hrun := va_runIN (locs := locs) (H := H) (below := below) (meth := meth) (e := e) (g := F0 mi pc lsC (st.map (zv b h0))) (rest := rest.map (zv b h0)) hS0 hMet ⟨⟨⟨rfl, rfl, by show zF a + 1 ≤ R.frames; omega, by show 8 + (zL a + 11) + zO a ≤ R.locals; omega, hws, List.mem_cons_self⟩, hts _ hcode, hts _ hinit, hnm, hpar, va_Nw.use rfl (henv.2.1.1 _ hlk rfl)⟩, hyn, hts _ hi1⟩ ⟨hp9.1, hp9.2.2⟩ rfl hlen hsize (hstk t As' e9 ht) hcs hd hroom
      rw [harr t As' e9 ht] at hrun
      exact zrun_go hrun hw kk
  · cases zn1 hn rfl
    unfold zRw at hrw
    dsimp only at hrw
    rw [if_neg hne1, if_neg hne2] at hrw
    simp only [Bool.and_eq_true] at hrw
    obtain ⟨hmlk, hst0⟩ := hrw
    obtain ⟨hf1, hf2, hlk⟩ := zml_ok hmlk
    have hlen : (As.map (zv b h0)).length = zA a - (if zSt a then 0 else 1) := by
      rw [hst0, List.length_map, hAl]
      rfl
    have hstk2 : st.map (zv b h0) = (As.map (zv b h0)).reverse ++ rest.map (zv b h0) := by
      rw [hst, List.map_append, List.map_reverse]
    rcases hlk with hlk | hlk
    · have hrun := va_runS (locs := locs) (H := H) (below := below) (meth := meth) (e := e) (g := F0 mi pc lsC (st.map (zv b h0))) (rest := rest.map (zv b h0)) (As := As.map (zv b h0)) hS0 hMet ⟨⟨rfl, rfl, by show zF a + 1 ≤ R.frames; omega, by show 8 + (zL a + 11) + zO a ≤ R.locals; omega, hws, List.mem_cons_self, hts _ hcode, hts _ hinit, hnm, hpar, hts _ hlk⟩, hts _ (hstat hst0)⟩ ⟨zPc_blind, hU⟩ rfl hlen hsize hstk2 hcs hd hroom
      exact zrun_go hrun hw kk
    · have hrun := va_runSN (locs := locs) (H := H) (below := below) (meth := meth) (e := e) (g := F0 mi pc lsC (st.map (zv b h0))) (rest := rest.map (zv b h0)) (As := As.map (zv b h0)) hS0 hMet ⟨⟨⟨rfl, rfl, by show zF a + 1 ≤ R.frames; omega, by show 8 + (zL a + 11) + zO a ≤ R.locals; omega, hws, List.mem_cons_self⟩, hts _ hcode, hts _ hinit, hnm, hpar, va_Nw.use rfl (henv.2.1.1 _ hlk rfl)⟩, hts _ (hstat hst0), trivial⟩ ⟨zPc_blind, hU⟩ rfl hlen hsize hstk2 hcs hd hroom
      exact zrun_go hrun hw kk
end ZY
