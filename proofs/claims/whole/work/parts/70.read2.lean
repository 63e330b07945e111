/-! the class's reader -/
theorem getD_ap {α : Type} {l : List α} {x d : α} {r : Nat} : (l ++ [x]).getD r d = if r = l.length then x else l.getD r d := by
  by_cases h : r < l.length
  · rw [if_neg (by omega), List.getD_eq_getElem?_getD, List.getElem?_append_left h, List.getD_eq_getElem?_getD]
  · by_cases e : r = l.length
    · rw [if_pos e, e]
      simp
    · rw [if_neg e, List.getD_eq_getElem?_getD, List.getD_eq_getElem?_getD, List.getElem?_eq_none (by rw [List.length_append, List.length_singleton]; omega), List.getElem?_eq_none (by omega)]
/-- where it stands -/
def cA (P : Nat → Int32) (p : Nat) (K : Nat → Nat → Int32) (i : Nat) : Prop := K 142 1 = nI p ∧ (∀ k, k < p → K 143 k = P k) ∧ K 144 1 = nI i
def cat (K : Nat → Nat → Int32) (i : Nat) : Nat → Nat → Int32 := zs1 K 144 1 (nI i)
theorem cat_id {K : Nat → Nat → Int32} {i : Nat} (h : K 144 1 = nI i) : cat K i = K := by
  unfold cat zs1
  refine zup_id ?_
  funext k
  rw [upd_at]
  by_cases e : k = 1
  · rw [if_pos e, e, h]
  · rw [if_neg e]
theorem cat_ne {K : Nat → Nat → Int32} {i t : Nat} (h : t ≠ 144) : cat K i t = K t := zs1_ne h
theorem cat_at {K : Nat → Nat → Int32} {i : Nat} : cat K i 144 1 = nI i := by
  unfold cat
  rw [zs1_self, upd_at, if_pos rfl]
theorem cat_2 {K : Nat → Nat → Int32} {i j : Nat} : cat (cat K i) j = cat K j := by
  unfold cat zs1
  rw [zup_self, zup_zup]
  congr 1
  funext k
  rw [upd_at, upd_at, upd_at]
  by_cases e : k = 1
  · rw [if_pos e, if_pos e]
  · rw [if_neg e, if_neg e, if_neg e]
theorem cA_cat {P : Nat → Int32} {p : Nat} {K : Nat → Nat → Int32} {i j : Nat} (h : cA P p K i) : cA P p (cat K j) j := ⟨by rw [cat_ne (by decide)]; exact h.1, fun k hk => by rw [cat_ne (by decide)]; exact h.2.1 k hk, cat_at⟩
/-- the marks that were read -/
def rcw (q : Rec) (w : Nat) : Int32 := match w with
  | 0 => nI q.1
  | 1 => nI q.2.1
  | 2 => nI q.2.2.1
  | 3 => nI q.2.2.2.1
  | 4 => nI q.2.2.2.2.1
  | _ => 0
def cRows (P : Nat → Int32) (K : Nat → Nat → Int32) (l : List Rec) : Prop := K 145 7 = nI l.length ∧ ∀ r, r < l.length → (∀ w, w < 6 → vC K 146 w r = rcw (l.getD r d0) w) ∧ ∀ k, k < (l.getD r d0).2.2.2.2.1 → k < 6 → K 152 (6 * r + k) = P ((l.getD r d0).2.2.2.2.2 + k) - 97
theorem vC_cells {J K : Nat → Nat → Int32} {w r : Nat} (h : ∀ t, 146 ≤ t → t ≤ 151 → J t = K t) (hw : w < 6) : vC J 146 w r = vC K 146 w r := by
  have hw5 : w = 0 ∨ w = 1 ∨ w = 2 ∨ w = 3 ∨ w = 4 ∨ w = 5 := by omega
  rcases hw5 with rfl | rfl | rfl | rfl | rfl | rfl <;> exact congrFun (h _ (by decide) (by decide)) r
theorem cRows_at {P : Nat → Int32} {J K : Nat → Nat → Int32} {l : List Rec} (h : cRows P K l) (hc : ∀ t, 145 ≤ t → t ≤ 152 → J t = K t) : cRows P J l := by
  obtain ⟨h1, h2⟩ := h
  refine ⟨by rw [hc 145 (by decide) (by decide)]; exact h1, fun r hr => ⟨fun w hw => ?_, fun k hk h6 => ?_⟩⟩
  · rw [vC_cells (fun t t1 t2 => hc t (by omega) (by omega)) hw]
    exact (h2 r hr).1 w hw
  · rw [hc 152 (by decide) (by decide)]
    exact (h2 r hr).2 k hk h6
theorem rcw_dRow {e k a b j w : Nat} (hw : w < 6) : rcw (e, k, a, b, 0, j) w = dRow (nI e) (nI k) (nI a) (nI b) w := by
  have hw5 : w = 0 ∨ w = 1 ∨ w = 2 ∨ w = 3 ∨ w = 4 ∨ w = 5 := by omega
  rcases hw5 with rfl | rfl | rfl | rfl | rfl | rfl <;> rfl
section R2
variable {X : Nat × (Nat → Int32)} {P : Nat → Int32} {p : Nat} {K : Nat → Nat → Int32}
theorem c49 {i : Nat} (hp : p ≤ 60) (h : cA P p K i) (hi : i < 1000) : zr X 49 0 [.ref 144, .ref 142, .null] [] (zk K) = some (some (.int (if dgt P p i = true then nI (dvl P i) else -6)), zk K) := by
  obtain ⟨h1, h2, h3⟩ := h
  rw [k49_0, h3]
  by_cases a : i < p
  · rw [c36y hp h1 a, zcb_some, zn_one, k49_8, h2 i a]
    by_cases b : P i < 48
    · rw [if_pos b, k49_28, if_neg (show ¬ dgt P p i = true by unfold dgt; rw [decide_eq_false (show ¬ ¬ P i < 48 from fun z => z b)]; simp)]
    · rw [if_neg b, k49_15]
      by_cases c : (57 : Int32) < P i
      · rw [if_pos c, k49_28, if_neg (show ¬ dgt P p i = true by unfold dgt; rw [decide_eq_false (show ¬ ¬ (57 : Int32) < P i from fun z => z c)]; simp)]
      · have d : dgt P p i = true := by
          unfold dgt
          rw [decide_eq_true a, decide_eq_true b, decide_eq_true c]
          rfl
        rw [if_neg c, k49_21, if_pos d, (dgt_v d).1]
  · rw [c36n hp h1 (by omega) hi, zcb_some, zn_one, k49_8, if_pos (by decide), k49_28, if_neg (fun z => a (dgt_lt z))]
theorem c44 {i : Nat} {x : Int32} (hp : p ≤ 60) (h : cA P p K i) (hi : i < 1000) (hx : ¬ (-6 : Int32) = x) : zr X 44 0 [.ref 144, .ref 142, .int x] [] (zk K) = some (some (.int (zb (sgn P p x i))), zk (if sgn P p x i = true then cat K (i + 1) else K)) := by
  obtain ⟨h1, h2, h3⟩ := h
  rw [k44_0, h3]
  unfold sgn
  by_cases a : i < p
  · rw [c36y hp h1 a, zcb_some, zn_one, k44_8, h2 i a, decide_eq_true a, Bool.true_and]
    by_cases b : P i = x
    · rw [if_pos b, k44_14, h3, ← nI_succ, decide_eq_true b, if_pos rfl]
      rfl
    · rw [if_neg b, k44_12, decide_eq_false b, if_neg (by decide)]
      rfl
  · rw [c36n hp h1 (by omega) hi, zcb_some, zn_one, k44_8, if_neg hx, k44_12, decide_eq_false a, Bool.false_and, if_neg (by decide)]
    rfl
theorem c44y {i : Nat} {x : Int32} (hp : p ≤ 60) (h : cA P p K i) (hi : i < 1000) (hx : ¬ (-6 : Int32) = x) (hs : sgn P p x i = true) : zr X 44 0 [.ref 144, .ref 142, .int x] [] (zk K) = some (some (.int 1), zk (cat K (i + 1))) := by
  rw [c44 hp h hi hx, hs, if_pos rfl]
  rfl
theorem c44n {i : Nat} {x : Int32} (hp : p ≤ 60) (h : cA P p K i) (hi : i < 1000) (hx : ¬ (-6 : Int32) = x) (hs : ¬ sgn P p x i = true) : zr X 44 0 [.ref 144, .ref 142, .int x] [] (zk K) = some (some (.int 0), zk K) := by
  rw [c44 hp h hi hx, if_neg hs, Bool.eq_false_iff.mpr hs]
  rfl
theorem nI_n6 {n : Nat} (h : n < 2 ^ 31) : ¬ nI n = -6 := by
  intro z
  have h1 := nI_pos h
  rw [z] at h1
  exact h1 (by decide)
/-- readGap -/
theorem c47 {i : Nat} (hp : p ≤ 60) (h : cA P p K i) (hi : i ≤ p) : zr X 47 0 [.ref 144, .ref 142, .null, .null] [] (zk K) = some (some (.int (oI (rGap P p i).2)), zk (cat K (rGap P p i).1)) := by
  rw [k47_0, c49 hp h (by omega), zcb_some, zn_one, k47_5]
  unfold rGap
  by_cases a : dgt P p i = true
  · have h1 := dgt_lt a
    have h2 := (dgt_v a).2
    have h9 := c49 (X := X) hp (cA_cat (j := i + 1) h) (by omega)
    rw [if_pos a, if_pos (nI_n6 (by omega)), k47_15, h.2.2, ← nI_succ, if_pos a]
    show zcb (zr X 49 0 [.ref 144, .ref 142, .null] [] (zk (cat K (i + 1)))) _ = _
    rw [h9, zcb_some, zn_one, k47_30]
    by_cases b : dvl P i = 0
    · rw [if_pos (show nI (dvl P i) = 0 by rw [b]; rfl), k47_52, if_neg (show ¬ two P p i = true by unfold two; rw [b]; simp)]
      rfl
    · rw [if_neg (nI_nz b (by omega)), k47_35]
      by_cases c : dgt P p (i + 1) = true
      · have h3 := (dgt_v c).2
        have e10 : nI (dvl P i) * 10 + nI (dvl P (i + 1)) = nI (10 * dvl P i + dvl P (i + 1)) := by
          rw [zI_add, Nat.mul_comm, zI_mul]
          rfl
        rw [if_pos c, if_neg (nI_n6 (by omega)), k47_41, e10]
        by_cases d : 10 * dvl P i + dvl P (i + 1) ≤ 60
        · rw [if_pos (show nI (10 * dvl P i + dvl P (i + 1)) ≤ 60 from nI_le (b := 60) d (by decide)), k47_54, e10, cat_at, ← nI_succ, if_pos (show two P p i = true by unfold two; rw [decide_eq_true b, c, decide_eq_true d]; rfl)]
          show some (some (Value.int (nI (10 * dvl P i + dvl P (i + 1)))), zk (cat (cat K (i + 1)) (i + 1 + 1))) = _
          rw [cat_2]
          rfl
        · rw [if_neg (show ¬ nI (10 * dvl P i + dvl P (i + 1)) ≤ 60 from nI_ge (a := 60) (by omega) (by omega)), k47_52, if_neg (show ¬ two P p i = true by unfold two; rw [decide_eq_false d]; simp)]
          rfl
      · rw [if_neg c, if_pos rfl, k47_52, if_neg (show ¬ two P p i = true by unfold two; rw [Bool.eq_false_iff.mpr c]; simp)]
        rfl
  · rw [if_neg a, if_neg (fun z => z rfl), k47_12, if_neg a]
    show _ = some (some (Value.int (-6)), zk (cat K i))
    rw [cat_id h.2.2]
/-- a mark is added -/
theorem c6r {l : List Rec} {e k a b j : Nat} (h : cRows P K l) (hl : l.length < 20) : ∃ J, zr X 6 0 [.ref 145, .int (nI e), .int (nI k), .int (nI a), .int (nI b)] [] (zk K) = some (none, zk J) ∧ cRows P J (l ++ [(e, k, a, b, 0, j)]) ∧ ∀ t, t < 145 ∨ 152 ≤ t → J t = K t := by
  obtain ⟨h1, h2⟩ := h
  obtain ⟨J, j1, j2, j3, j4⟩ := c6 (X := X) (I := K) (e := nI e) (k := nI k) (a := nI a) (b := nI b) h1 hl
  refine ⟨J, j1, ⟨by rw [List.length_append, List.length_singleton]; exact j2, fun r hr => ⟨fun w hw => ?_, fun q hq h6 => ?_⟩⟩, j3⟩
  · rw [j4 r w hw, getD_ap]
    by_cases z : r = l.length
    · rw [if_pos z, if_pos z, rcw_dRow hw]
    · rw [if_neg z, if_neg z]
      rw [List.length_append, List.length_singleton] at hr
      exact (h2 r (by omega)).1 w hw
  · rw [getD_ap] at hq ⊢
    by_cases z : r = l.length
    · rw [if_pos z] at hq
      exact absurd hq (Nat.not_lt_zero _)
    · rw [if_neg z] at hq ⊢
      rw [List.length_append, List.length_singleton] at hr
      rw [j3 152 (by decide)]
      exact (h2 r (by omega)).2 q hq h6
/-- readGaps -/
theorem c45 {l : List Rec} {i e k : Nat} (hp : p ≤ 60) (h : cA P p K i) (hr : cRows P K l) (hl : l.length < 20) (hi : i ≤ p) : ∃ J, zr X 45 0 [.ref 144, .ref 142, .int (nI e), .int (nI k), .null, .null] [] (zk K) = some (some (.int (zb (rGps P p i).2.isSome)), zk J) ∧ cA P p J (rGps P p i).1 ∧ (∀ t, t < 144 ∨ 152 ≤ t → J t = K t) ∧ ∀ ab, (rGps P p i).2 = some ab → cRows P J (l ++ [(e, k, ab.1, ab.2, 0, (rGps P p i).1)]) := by
  have g1 := rGap_le (P := P) hi
  rw [k45_0, c47 hp h hi, zcb_some, zn_one, k45_5]
  unfold rGps
  rcases eg : rGap P p i with ⟨j, _ | a⟩
  · show ∃ J, (if (-6 : Int32) = -6 then zr X 45 24 [.ref 144, .ref 142, .int (nI e), .int (nI k), .int (-6), .null] [] (zk (cat K j)) else _) = _ ∧ _
    rw [if_pos rfl, k45_24]
    exact ⟨_, rfl, cA_cat h, fun t ht => cat_ne (by omega), fun ab z => by cases z⟩
  · rw [eg] at g1
    have g2 := g1.2.2 a rfl
    have g3 : j ≤ p := g1.2.1
    have g5 : a ≤ 60 := g2.2
    show ∃ J, (if nI a = -6 then _ else zr X 45 14 [.ref 144, .ref 142, .int (nI e), .int (nI k), .int (nI a), .null] [] (zk (cat K j))) = _ ∧ _
    rw [if_neg (nI_n6 (by omega)), k45_14]
    dsimp only
    by_cases b : sgn P p 58 j = true
    · have g4 := sgn_lt b
      rw [c44y hp (cA_cat h) (by omega) (by decide) b, zcb_some, zn_one, k45_21, if_pos (by decide), k45_26, cat_2, c47 hp (cA_cat h) g4, zcb_some, zn_one, k45_31, if_pos b]
      rcases eg2 : rGap P p (j + 1) with ⟨q, _ | c⟩
      · show ∃ J, (if ¬ (-6 : Int32) = -6 then _ else zr X 45 40 [.ref 144, .ref 142, .int (nI e), .int (nI k), .int (nI a), .int (-6)] [] (zk (cat (cat K (j + 1)) q))) = _ ∧ _
        rw [if_neg (fun z => z rfl), k45_40, cat_2]
        exact ⟨_, rfl, cA_cat h, fun t ht => cat_ne (by omega), fun ab z => by cases z⟩
      · have g6 := rGap_le (P := P) (p := p) (i := j + 1) g4
        rw [eg2] at g6
        have g7 : c ≤ 60 := (g6.2.2 c rfl).2
        show ∃ J, (if ¬ nI c = -6 then zr X 45 42 [.ref 144, .ref 142, .int (nI e), .int (nI k), .int (nI a), .int (nI c)] [] (zk (cat (cat K (j + 1)) q)) else _) = _ ∧ _
        obtain ⟨J, j1, j2, j3⟩ := c6r (X := X) (P := P) (K := cat K q) (l := l) (e := e) (k := k) (a := a) (b := c) (j := q) (cRows_at hr (fun t t1 t2 => cat_ne (by omega))) hl
        rw [if_pos (nI_n6 (by omega)), k45_42, cat_2, j1, zcb_some, zn_nil, k45_55]
        have hc := cA_cat (j := q) h
        refine ⟨J, rfl, ⟨by rw [j3 142 (by decide)]; exact hc.1, fun k hk => by rw [j3 143 (by decide)]; exact hc.2.1 k hk, by rw [j3 144 (by decide)]; exact hc.2.2⟩, fun t ht => (j3 t (by omega)).trans (cat_ne (by omega)), fun ab z => ?_⟩
        cases z
        exact j2
    · rw [c44n hp (cA_cat h) (by omega) (by decide) b, zcb_some, zn_one, k45_21, if_neg (fun z => z rfl), k45_24, if_neg b]
      exact ⟨_, rfl, cA_cat h, fun t ht => cat_ne (by omega), fun ab z => by cases z⟩
/-- readOneGap -/
theorem c46 {l : List Rec} {i e : Nat} (hp : p ≤ 60) (h : cA P p K i) (hr : cRows P K l) (hl : l.length < 20) (hi : i ≤ p) : ∃ J, zr X 46 0 [.ref 144, .ref 142, .int (nI e), .null] [] (zk K) = some (some (.int (zb (rOne P p i).2.isSome)), zk J) ∧ cA P p J (rOne P p i).1 ∧ (∀ t, t < 144 ∨ 152 ≤ t → J t = K t) ∧ ∀ ab, (rOne P p i).2 = some ab → cRows P J (l ++ [(e, 1, ab.1, ab.2, 0, (rOne P p i).1)]) := by
  have g1 := rGap_le (P := P) hi
  rw [k46_0, c47 hp h hi, zcb_some, zn_one, k46_5]
  unfold rOne
  rcases eg : rGap P p i with ⟨j, _ | a⟩
  · show ∃ J, (if ¬ (-6 : Int32) = -6 then _ else zr X 46 12 [.ref 144, .ref 142, .int (nI e), .int (-6)] [] (zk (cat K j))) = _ ∧ _
    rw [if_neg (fun z => z rfl), k46_12]
    exact ⟨_, rfl, cA_cat h, fun t ht => cat_ne (by omega), fun ab z => by cases z⟩
  · rw [eg] at g1
    have g5 : a ≤ 60 := (g1.2.2 a rfl).2
    obtain ⟨J, j1, j2, j3⟩ := c6r (X := X) (P := P) (K := cat K j) (l := l) (e := e) (k := 1) (a := a) (b := a) (j := j) (cRows_at hr (fun t t1 t2 => cat_ne (by omega))) hl
    show ∃ J, (if ¬ nI a = -6 then zr X 46 14 [.ref 144, .ref 142, .int (nI e), .int (nI a)] [] (zk (cat K j)) else _) = _ ∧ _
    rw [show nI 1 = (1 : Int32) from rfl] at j1
    rw [if_pos (nI_n6 (by omega)), k46_14, j1, zcb_some, zn_nil, k46_25]
    have hc := cA_cat (j := j) h
    refine ⟨J, rfl, ⟨by rw [j3 142 (by decide)]; exact hc.1, fun k hk => by rw [j3 143 (by decide)]; exact hc.2.1 k hk, by rw [j3 144 (by decide)]; exact hc.2.2⟩, fun t ht => (j3 t (by omega)).trans (cat_ne (by omega)), fun ab z => ?_⟩
    cases z
    exact j2
end R2
