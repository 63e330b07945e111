/-! THE CLAIM OUT OF ONE WALK OF THE LAW'S BODY. Your part is whole_start (and what it stands on); all else here is the same for every law, but numbers. -/
def R_law : String := "FiveInksLaw"
def lw_P (b : Addr) (xs : List Int32) (args : Array Value) (s : State) : Prop := args = #[.ref b] ∧ s.IntsAt b xs ∧ xs.length ≤ 2048 ∧ (Jvm.Cond.and given_1 narrow_1).before args s = true
def lw_Q (_ : Array Value) (s : State) (o : Outcome) (t : State) : Prop := o = .returned (some (.int 1)) ∧ Framed s o t [] 600000 7302250
def lw_Z (below : List Frame) (a : Array Value) (s : State) : State → Prop := fun t => ∃ o, t.status = .running ∧ Ended t below o ∧ lw_Q a s o t
/-- the law's own end, with 1 on the stack, nothing written that was there before, its room as the claim has it -/
theorem lw_ret {p : Program} {l : Launch} {e : Env} {s : State} {m : MethodId} {below : List Frame} {meth : Method} {c : Code} {b : Nat} (hx : p.tables.exec = Jvm.exec) (hb : c.code = code) (hr : meth.sig.returnType = ret) (hlocks : meth.locks = false) {pc : Nat} {H : Heap} {ls : Array Slot} (hdg : decode code pc = .ok (.ireturn, 1)) : W p l e room_1 s m #[Value.ref b] below meth c H [] 600000 7302250 (lw_Z below #[Value.ref b] s) (F0 m pc ls [.int 1]) := by
  intro T hT X
  obtain ⟨fs, hret, hrun, hended, hW, hframe⟩ := X.leave (v := some (.int 1)) (hlocks := hlocks) (fun h => by rw [hr] at h; cases h)
  have hmeth' : T.vm.method? m = some meth := X.method'
  refine ⟨T.setFrames fs, ?_, .returned (some (.int 1)), hrun, hended, rfl, ⟨_, rfl⟩, hW, hframe⟩
  jvm_step X.here [X.here.top, hx, hb, hdg, hmeth', hr, ret, narrow_b1]
  (try refine ⟨rfl, ?_⟩); (try refine ⟨rfl, ?_⟩)
  first | (intro acts; rw [hret _ acts rfl rfl rfl]) | rw [hret _ _ rfl rfl rfl]
  exact Steps.refl _
/-- what holds at the law's entry: the machine, the code, the tables' words (any of lw_tbl by 'hts w (by decide +kernel)'), the script of L ints xs at the cell b, what the Statement gives of the start (any of its parts by flat_of_before) -/
def lw_At (p : Program) (s : State) (m : MethodId) (meth : Method) (c : Code) (b L : Nat) (xs : Nat → Int32) : Prop :=
  p.tables.exec = Jvm.exec ∧ c.code = code ∧ meth.sig.returnType = ret ∧ c.maxLocals = 4 ∧ s.vm.findClass R_law = some m.cls ∧ (∀ w ∈ lw_tbl, w.before #[Value.ref b] s = true) ∧ va_X b L xs s s.heap ∧ b < s.heap.size ∧ meth.locks = false ∧ (Jvm.Cond.and given_1 narrow_1).before #[Value.ref b] s = true
/-- WHAT IS LEFT OF THE CLAIM: on every script the pure machine's run of the law answers 1, within the room -/
def zm0 : zM := (0, [99], [0], [[]], fun _ _ => 0)
def zClaim : Prop := ∀ X : Nat × (Nat → Int32), X.1 ≤ 2048 → ∃ (n : Nat) (m' : zM), zrun X n 188 0 [.ref 0, .null, .null, .null] [] zm0 = some (some (.int 1), m') ∧ m'.2.1.length ≤ 600001 ∧ m'.1 ≤ 7302250
theorem zlaw_B : zB 188 = code := rfl
theorem zlaw_L : zL 188 = 4 := rfl
theorem zlaw_E : zEn 188 [.ref 0] = [.ref 0, .null, .null, .null] := rfl
theorem zNW_of {b : Nat} {s : State} (hts : ∀ w ∈ lw_tbl, w.before #[Value.ref b] s = true) : zNW s := by
  refine ⟨fun w hw hn => ?_, hts _ (zw_in zw_over)⟩
  have h1 := hts w hw
  cases w <;> first | exact va_Nw.of rfl h1 | cases hn
theorem zK_of {b : Nat} {s : State} (hts : ∀ w ∈ lw_tbl, w.before #[Value.ref b] s = true) : ∃ (D : va_G) (cA : Nat → ClassId), va_K D zcl (zTy cA) s := by
  have htt : ∀ w ∈ zTT, w.before #[Value.ref b] s = true := fun w hw => hts w (List.mem_filter.mp hw).1
  have h1 : ∀ c : Nat, ∃ z : ClassId × (Nat → Nat), ∀ q : vw_C, zcl[c]? = some q → u_Kn s q.1 q.2.1 q.2.2 z.1 z.2 := by
    intro c
    by_cases hc : c < 11
    · obtain ⟨r, er, e2, hin, hins, -⟩ := zCk_ok hc
      obtain ⟨cC, iS, hk⟩ := u_known (n := r.2.2) htt hin (htt _ hins)
      exact ⟨(cC, iS), fun q hq => by cases er.symm.trans hq; exact hk⟩
    · refine ⟨(0, fun _ => 0), fun q hq => ?_⟩
      have := (List.getElem?_eq_some_iff.mp hq).1
      exact absurd this hc
  obtain ⟨f, hf⟩ := Classical.axiomOfChoice h1
  obtain ⟨c0, k0, comp0, a1, a2, a3⟩ := Cond.arrayClass_spec (hts _ (zw_in zw_int))
  obtain ⟨c1, k1, comp1, b1, b2, b3⟩ := Cond.arrayClass_spec (hts _ (zw_in zw_bool))
  obtain ⟨comp2, c2, k2, d1, -, d2, d3, d4⟩ := Cond.arrayOver_spec (hts _ (zw_in zw_over))
  refine ⟨(fun c => (f c).1, fun c => (f c).2), (fun k => if k = 0 then c0 else if k = 1 then c1 else c2), hf, fun k q hq => ?_⟩
  match k, hq with
  | 0, hq =>
    cases hq
    exact ⟨fun n z => ⟨fun k h => (by cases h), k0, a2, comp0, a3⟩, a1⟩
  | 1, hq =>
    cases hq
    exact ⟨fun n z => ⟨fun k h => (by cases h), k1, b2, comp1, b3⟩, b1⟩
  | 2, hq =>
    cases hq
    exact ⟨fun n z => ⟨fun k h => (by cases h), k2, d2, comp2, d3⟩, k2, comp2, d2, d3, d1, d4⟩
  | k + 3, hq =>
    have := (List.getElem?_eq_some_iff.mp hq).1
    exact absurd this (by show ¬ k + 3 < 3; omega)
theorem whole_start_of (hcl : zClaim) {p : Program} {e : Env} {s : State} {m : MethodId} {below : List Frame} {meth : Method} {c : Code} (l : Launch) (hflags : l.flags = flags0) {b L : Nat} {xs : Nat → Int32} (hL : L ≤ 2048) (C0 : lw_At p s m meth c b L xs) : W p l e room_1 s m #[Value.ref b] below meth c s.heap [] 0 0 (lw_Z below #[Value.ref b] s) (entryFrame m ([Value.ref b] : List Value).toArray 4) := by
  obtain ⟨hx, hb, hr, hml, hown, hts, hX, hbl, hlocks, hgv⟩ := C0
  obtain ⟨D, cA, hK⟩ := zK_of hts
  obtain ⟨n, m', hrun, hn1, hn2⟩ := hcl (L, xs) hL
  have hh : s.heap.size = (s.heap.size - 1) + 1 := by omega
  have hS := zrun_sound (D := D) (cA := cA) (b := b) (h0 := s.heap.size - 1) (X := (L, xs)) (HL := s.heap) n 188 0 _ _ _ _ hrun
  rw [lg_entry_eq]
  have hls := zEn_ls (b := b) (h0 := s.heap.size - 1) (k := 188) (args := [.ref 0]) rfl
  refine hS l p e room_1 s m #[Value.ref b] below meth c s.heap [] 0 0 (lw_Z below #[Value.ref b] s) _ ⟨hx, hb.trans zlaw_B.symm, hml.trans zlaw_L.symm, hown, fun w hw => hts w (List.mem_filter.mp hw).1, ⟨hK, zNW_of hts, hX, hh, by omega⟩, by show zF 188 ≤ 9; decide, by show zO 188 ≤ 314; decide, fun h => by cases h⟩
    ⟨fun k q h => by simp [zwl, zm0] at h, va_S.rf⟩ (by show s.heap.size + 0 = s.heap.size - 1 + 1; omega) hls (by show 0 + m'.2.1.length ≤ 600000 + 1; omega) (by show 0 + m'.1 ≤ 7302250 + 0; omega) (fun H' locs' lsC' cells' slots' pc' hw' hc' hs' hend => ?_)
  have hc2 : cells' + 1 = 0 + m'.2.1.length := hc'
  have hs2 : slots' + 0 = 0 + m'.1 := hs'
  refine va_forget (fun q hq => ?_) ?_
  · have h1 : s.heap.size - 1 < q.base := hw'.2.2.2 q hq
    omega
  · refine W.widen (k := 600000) (n := 7302250) (by omega) (by omega) ?_
    rcases hend with ⟨h1, -⟩ | ⟨x, h1, hd, -⟩
    · cases h1
    · cases h1
      rw [zlaw_B] at hd
      exact lw_ret hx hb hr hlocks hd
