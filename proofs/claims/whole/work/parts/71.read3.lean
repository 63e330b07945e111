/-! the class reads marks -/
/-- behind some letters -/
def lQ (P : Nat → Int32) (K J : Nat → Nat → Int32) (s j q : Nat) : Prop := (∀ t, t ≠ 144 → t ≠ 151 → t ≠ 152 → J t = K t) ∧ J 144 1 = nI (j + q) ∧ (∀ r, J 151 r = if r = s then nI q else K 151 r) ∧ ∀ k, J 152 k = if 6 * s ≤ k ∧ k < 6 * s + q then P (j + (k - 6 * s)) - 97 else K 152 k
section R3
variable {X : Nat × (Nat → Int32)} {P : Nat → Int32} {p : Nat} {K : Nat → Nat → Int32}
theorem c7 {s q : Nat} {v : Int32} (hs : K 145 7 = nI (s + 1)) (hl : s < 20) (hq : K 151 s = nI q) (hq6 : q < 6) : zr X 7 0 [.ref 145, .int v, .null] [] (zk K) = some (none, zk (zs1 (zs1 K 152 (6 * s + q) v) 151 s (nI (q + 1)))) := by
  have e : nI (s + 1) - 1 = nI s := zI_sub (b := 1) (by omega)
  have hs0 := zin_nI hl (show (20 : Nat) < 2 ^ 31 by decide)
  have ez : zx (nI s) = s := zx_nI (by omega)
  have e2 : nI s * 6 + nI q = nI (6 * s + q) := by rw [nI_6, ← zI_add]
  rw [k7_0, hs, e, if_neg (nI_pos (by omega)), k7_11 hs0, ez, hq, if_neg (show ¬ (6 : Int32) ≤ nI q from nI_ge (b := 6) hq6 (by decide)), k7_22 hs0 (by rw [ez, hq, e2]; exact zin_nI (by omega) (by decide)), ez, hq, e2, zx_nI (by omega), ← nI_succ]
/-- readLetters -/
theorem c48 {l : List Rec} {e k a b j0 j : Nat} (hp : p ≤ 60) (h : cA P p K j) (hr : cRows P K (l ++ [(e, k, a, b, 0, j0)])) (hl : l.length < 20) (hj : j ≤ p) : ∃ J, zr X 48 0 [.ref 144, .ref 142, .null] [] (zk K) = some (some (.int (zb (decide (rCnt P p 6 j ≠ 0)))), zk J) ∧ cA P p J (j + rCnt P p 6 j) ∧ (∀ t, t < 144 ∨ 153 ≤ t → J t = K t) ∧ cRows P J (l ++ [(e, k, a, b, rCnt P p 6 j, j)]) := by
  have hlen : (l ++ [(e, k, a, b, 0, j0)]).length = l.length + 1 := by rw [List.length_append, List.length_singleton]
  obtain ⟨hr1, hr2⟩ := hr
  rw [hlen] at hr1 hr2
  have hput : K 151 l.length = 0 := by
    have := (hr2 l.length (Nat.lt_succ_self _)).1 4 (by decide)
    rw [getD_ap, if_pos rfl] at this
    exact this
  have hloop : ∀ f q Kq, q + f = 6 → lQ P K Kq l.length j q → ∃ J, zr X 48 2 [.ref 144, .ref 142, .int (nI q)] [] (zk Kq) = zr X 48 53 [.ref 144, .ref 142, .int (nI (q + rCnt P p f (j + q)))] [] (zk J) ∧ lQ P K J l.length j (q + rCnt P p f (j + q)) := by
    intro f
    induction f with
    | zero =>
      intro q Kq hq hQ
      have e : q = 6 := by omega
      subst e
      exact ⟨Kq, by rw [k48_2, if_pos (by decide)]; rfl, hQ⟩
    | succ f ih =>
      intro q Kq hq hQ
      obtain ⟨q0, q1, q2, q3⟩ := id hQ
      have hK1 : Kq 142 1 = nI p := by rw [q0 142 (by decide) (by decide) (by decide)]; exact h.1
      have hK2 : ∀ k, k < p → Kq 143 k = P k := fun k hk => by rw [q0 143 (by decide) (by decide) (by decide)]; exact h.2.1 k hk
      rw [k48_2, if_neg (show ¬ (6 : Int32) ≤ nI q from nI_ge (b := 6) (by omega) (by decide)), k48_8, q1]
      unfold rCnt
      by_cases a : ltr P p (j + q) = true
      · have hlt := ltr_lt a
        have a2 : pLt (P (j + q)) = true := by
          unfold ltr at a
          rw [Bool.and_eq_true] at a
          exact a.2
        have h151 : Kq 151 l.length = nI q := by rw [q2, if_pos rfl]
        rw [c37y hp hK1 hlt, zcb_some, zn_one, k48_16, hK2 _ hlt, a2, zb_t, if_neg (by decide), k48_19, q1, c36y hp hK1 hlt, zcb_some]
        show ∃ J, zr X 48 31 [.ref 144, .ref 142, .int (nI q)] [.int (Kq 143 (j + q)), .ref 145] (zk Kq) = _ ∧ _
        rw [k48_31, hK2 _ hlt, c7 (s := l.length) (q := q) (by rw [q0 145 (by decide) (by decide) (by decide)]; exact hr1) hl h151 (by omega), zcb_some, zn_nil, k48_37, zs1_ne (show (144 : Nat) ≠ 151 by decide), zs1_ne (show (144 : Nat) ≠ 152 by decide), q1, ← nI_succ, ← nI_succ, if_pos a, show q + (rCnt P p f (j + q + 1) + 1) = q + 1 + rCnt P p f (j + (q + 1)) by rw [Nat.add_assoc j q 1]; omega]
        refine ih (q + 1) _ (by omega) ⟨fun t t1 t2 t3 => (zs1_ne t1).trans ((zs1_ne t2).trans ((zs1_ne t3).trans (q0 t t1 t2 t3))), ?_, fun r => ?_, fun k => ?_⟩
        · rw [zs1_self, upd_at, if_pos rfl]
          rfl
        · rw [zs1_ne (by decide), zs1_self, upd_at, zs1_ne (by decide), q2]
          by_cases z : r = l.length
          · rw [if_pos z, if_pos z]
          · rw [if_neg z, if_neg z, if_neg z]
        · rw [zs1_ne (by decide), zs1_ne (by decide), zs1_self, upd_at, q3]
          by_cases z : k = 6 * l.length + q
          · rw [if_pos z, if_pos (by omega), show k - 6 * l.length = q by omega]
          · rw [if_neg z]
            by_cases y : 6 * l.length ≤ k ∧ k < 6 * l.length + q
            · rw [if_pos y, if_pos (by omega)]
            · rw [if_neg y, if_neg (by omega)]
      · rw [if_neg a]
        refine ⟨Kq, ?_, hQ⟩
        by_cases b : j + q < p
        · have a2 : pLt (P (j + q)) = false := by
            rw [Bool.eq_false_iff]
            intro z
            refine a ?_
            unfold ltr
            rw [z, decide_eq_true b]
            rfl
          rw [c37y hp hK1 b, zcb_some, zn_one, k48_16, hK2 _ b, a2, zb_f, if_pos rfl]
          rfl
        · rw [c37n hp hK1 (by omega) (by omega), zcb_some, zn_one, k48_16, if_pos rfl]
          rfl
  obtain ⟨J, j1, j2⟩ := hloop 6 0 K rfl ⟨fun _ _ _ _ => rfl, h.2.2, fun r => by
    by_cases z : r = l.length
    · rw [if_pos z, z, hput]
      rfl
    · rw [if_neg z], fun k => by rw [if_neg (by omega)]⟩
  rw [nI_0, Nat.zero_add] at j1
  rw [Nat.zero_add] at j2
  have hle := rCnt_le (P := P) (p := p) 6 j hj
  generalize hn : rCnt P p 6 j = n at j1 j2 hle
  obtain ⟨q0, q1, q2, q3⟩ := j2
  refine ⟨J, ?_, ⟨by rw [q0 142 (by decide) (by decide) (by decide)]; exact h.1, fun k hk => by rw [q0 143 (by decide) (by decide) (by decide)]; exact h.2.1 k hk, q1⟩, fun t ht => q0 t (by omega) (by omega) (by omega), ?_⟩
  · rw [k48_0, j1, k48_53]
    by_cases z : n = 0
    · rw [if_pos (show nI n ≤ 0 by rw [z]; decide), k48_61, decide_eq_false (fun y => y z)]
      rfl
    · rw [if_neg (show ¬ nI n ≤ 0 from nI_ge (a := 0) (by omega) (by omega)), k48_57, decide_eq_true z]
      rfl
  · have hlen2 : (l ++ [(e, k, a, b, n, j)]).length = l.length + 1 := by rw [List.length_append, List.length_singleton]
    refine ⟨by rw [hlen2, q0 145 (by decide) (by decide) (by decide)]; exact hr1, fun r hr => ?_⟩
    rw [hlen2] at hr
    rw [getD_ap]
    have hvc : ∀ w, w < 6 → w ≠ 4 → vC J 146 w r = vC K 146 w r := by
      intro w hw h4
      have hw5 : w = 0 ∨ w = 1 ∨ w = 2 ∨ w = 3 ∨ w = 5 := by omega
      rcases hw5 with rfl | rfl | rfl | rfl | rfl <;> exact congrFun (q0 _ (by decide) (by decide) (by decide)) r
    have hv4 : vC J 146 4 r = if r = l.length then nI n else vC K 146 4 r := q2 r
    by_cases z : r = l.length
    · rw [if_pos z]
      refine ⟨fun w hw => ?_, fun q hq h6 => ?_⟩
      · by_cases h4 : w = 4
        · rw [h4, hv4, if_pos z]
          rfl
        · have h1 := (hr2 r hr).1 w hw
          rw [getD_ap, if_pos z] at h1
          rw [hvc w hw h4, h1]
          have hw5 : w = 0 ∨ w = 1 ∨ w = 2 ∨ w = 3 ∨ w = 5 := by omega
          rcases hw5 with rfl | rfl | rfl | rfl | rfl <;> rfl
      · have hq2 : q < n := hq
        rw [q3, if_pos (by omega), z]
        show P (j + (6 * l.length + q - 6 * l.length)) - 97 = P (j + q) - 97
        rw [show 6 * l.length + q - 6 * l.length = q by omega]
    · rw [if_neg z]
      have h1 := hr2 r hr
      rw [getD_ap, if_neg z] at h1
      refine ⟨fun w hw => ?_, fun q hq h6 => ?_⟩
      · by_cases h4 : w = 4
        · rw [h4, hv4, if_neg z]
          exact h1.1 4 (by decide)
        · rw [hvc w hw h4]
          exact h1.1 w hw
      · rw [q3, if_neg (by omega)]
        exact h1.2 q hq h6
/-- readMark -/
theorem c43 {l : List Rec} {i : Nat} (hp : p ≤ 60) (h : cA P p K i) (hr : cRows P K l) (hl : l.length < 20) (hi : i ≤ p) : ∃ J, zr X 43 0 [.ref 144, .ref 142, .null] [] (zk K) = some (some (.int (zb (rMk P p i).2.isSome)), zk J) ∧ cA P p J (rMk P p i).1 ∧ (∀ t, t < 144 ∨ 153 ≤ t → J t = K t) ∧ ∀ q, (rMk P p i).2 = some q → cRows P J (l ++ [q]) := by
  rw [k43_0, c49 hp h (by omega), zcb_some, zn_one, k43_5]
  unfold rMk
  have hend : ∀ (v : Int32), (v < 0 ∨ nI 5 ≤ v) → ¬ (dgt P p i && decide (dvl P i < 5)) = true → ∃ J, zcb (zr X 113 0 [.int v] [] (zk K)) (fun v1 m1 => zr X 43 10 [.ref 144, .ref 142, .int v] (v1.toList ++ []) m1) = some (some (.int (zb (if (dgt P p i && decide (dvl P i < 5)) = true then (if sgn P p 45 (i + 1) = true then rStk (dvl P i) (rGps P p (i + 2)) else if sgn P p 61 (i + 1) = true then rLts P p (dvl P i) 2 (rGps P p (i + 2)) else if sgn P p 43 (i + 1) = true then rLts P p (dvl P i) 1 (rOne P p (i + 2)) else (i + 1, none)) else (i, none)).2.isSome)), zk J) ∧ cA P p J (if (dgt P p i && decide (dvl P i < 5)) = true then (if sgn P p 45 (i + 1) = true then rStk (dvl P i) (rGps P p (i + 2)) else if sgn P p 61 (i + 1) = true then rLts P p (dvl P i) 2 (rGps P p (i + 2)) else if sgn P p 43 (i + 1) = true then rLts P p (dvl P i) 1 (rOne P p (i + 2)) else (i + 1, none)) else (i, none)).1 ∧ (∀ t, t < 144 ∨ 153 ≤ t → J t = K t) ∧ ∀ q, (if (dgt P p i && decide (dvl P i < 5)) = true then (if sgn P p 45 (i + 1) = true then rStk (dvl P i) (rGps P p (i + 2)) else if sgn P p 61 (i + 1) = true then rLts P p (dvl P i) 2 (rGps P p (i + 2)) else if sgn P p 43 (i + 1) = true then rLts P p (dvl P i) 1 (rOne P p (i + 2)) else (i + 1, none)) else (i, none)).2 = some q → cRows P J (l ++ [q]) := by
    intro v hv hc
    rw [if_neg hc, c113n hv, zcb_some, zn_one, k43_10, if_neg (fun z => z rfl), k43_13]
    exact ⟨K, rfl, h, fun _ _ => rfl, fun q z => by cases z⟩
  by_cases a : dgt P p i = true
  · have h1 := dgt_lt a
    have h2 := (dgt_v a).2
    rw [if_pos a]
    by_cases a5 : dvl P i < 5
    · have hc : (dgt P p i && decide (dvl P i < 5)) = true := by rw [a, decide_eq_true a5]; rfl
      rw [if_pos hc, c113y a5, zcb_some, zn_one, k43_10, if_pos (by decide), k43_15, h.2.2, ← nI_succ]
      have hA1 : cA P p (cat K (i + 1)) (i + 1) := cA_cat h
      have hR1 : cRows P (cat K (i + 1)) l := cRows_at hr (fun t t1 t2 => cat_ne (by omega))
      have hA2 : cA P p (cat K (i + 2)) (i + 2) := cA_cat h
      have hR2 : cRows P (cat K (i + 2)) l := cRows_at hr (fun t t1 t2 => cat_ne (by omega))
      show ∃ J, zcb (zr X 44 0 [.ref 144, .ref 142, .int 45] [] (zk (cat K (i + 1)))) _ = _ ∧ _
      by_cases b : sgn P p 45 (i + 1) = true
      · have g1 := sgn_lt b
        obtain ⟨J, j1, j2, j3, j4⟩ := c45 (X := X) (e := dvl P i) (k := 0) hp hA2 hR2 hl g1
        rw [nI_0] at j1
        rw [c44y hp hA1 (by omega) (by decide) b, zcb_some, zn_one, k43_32, if_neg (by decide), k43_35, cat_2, j1, zcb_some, zn_one, k43_42 (zb_01 _), if_pos b]
        unfold rStk
        rcases eg : rGps P p (i + 2) with ⟨j, _ | ab⟩
        · rw [eg] at j2 j4
          exact ⟨J, rfl, j2, fun t ht => (j3 t (by omega)).trans (cat_ne (by omega)), fun q z => by cases z⟩
        · rw [eg] at j2 j4
          refine ⟨J, rfl, j2, fun t ht => (j3 t (by omega)).trans (cat_ne (by omega)), fun q z => ?_⟩
          cases z
          exact j4 ab rfl
      · rw [c44n hp hA1 (by omega) (by decide) b, zcb_some, zn_one, k43_32, if_pos rfl, k43_43, if_neg b]
        by_cases c : sgn P p 61 (i + 1) = true
        · have g1 := sgn_lt c
          obtain ⟨J, j1, j2, j3, j4⟩ := c45 (X := X) (e := dvl P i) (k := 2) hp hA2 hR2 hl g1
          rw [show nI 2 = (2 : Int32) from rfl] at j1
          have g2 := rGps_le (P := P) (p := p) (i := i + 2) g1
          rw [c44y hp hA1 (by omega) (by decide) c, zcb_some, zn_one, k43_50, if_neg (by decide), k43_53, cat_2, j1, zcb_some, zn_one, k43_60, if_pos c]
          unfold rLts
          rcases eg : rGps P p (i + 2) with ⟨j, _ | ab⟩
          · rw [eg] at j2 j4
            rw [if_pos (show zb (Option.isSome (none : Option (Nat × Nat))) = 0 from rfl), k43_75]
            exact ⟨J, rfl, j2, fun t ht => (j3 t (by omega)).trans (cat_ne (by omega)), fun q z => by cases z⟩
          · rw [eg] at j2 j4 g2
            obtain ⟨J2, y1, y2, y3, y4⟩ := c48 (X := X) hp j2 (j4 ab rfl) hl g2.2.1
            rw [if_neg (show ¬ zb (Option.isSome (some ab)) = 0 from (by decide : ¬ (1 : Int32) = 0)), k43_63, y1, zcb_some, zn_one, k43_68]
            dsimp only at y2 y4 ⊢
            by_cases d : rCnt P p 6 j = 0
            · rw [decide_eq_false (fun z => z d), if_pos (show zb false = 0 from rfl), k43_75, if_pos d]
              rw [d, Nat.add_zero] at y2
              exact ⟨J2, rfl, y2, fun t ht => (y3 t ht).trans ((j3 t (by omega)).trans (cat_ne (by omega))), fun q z => by cases z⟩
            · rw [decide_eq_true d, if_neg (show ¬ zb true = 0 by decide), k43_71, if_neg d]
              refine ⟨J2, rfl, y2, fun t ht => (y3 t ht).trans ((j3 t (by omega)).trans (cat_ne (by omega))), fun q z => ?_⟩
              cases z
              exact y4
        · rw [c44n hp hA1 (by omega) (by decide) c, zcb_some, zn_one, k43_50, if_pos rfl, k43_77, if_neg c]
          by_cases c2 : sgn P p 43 (i + 1) = true
          · have g1 := sgn_lt c2
            obtain ⟨J, j1, j2, j3, j4⟩ := c46 (X := X) (e := dvl P i) hp hA2 hR2 hl g1
            have g2 := rOne_le (P := P) (p := p) (i := i + 2) g1
            rw [c44y hp hA1 (by omega) (by decide) c2, zcb_some, zn_one, k43_84, if_neg (by decide), k43_87, cat_2, j1, zcb_some, zn_one, k43_93, if_pos c2]
            unfold rLts
            rcases eg : rOne P p (i + 2) with ⟨j, _ | ab⟩
            · rw [eg] at j2 j4
              rw [if_pos (show zb (Option.isSome (none : Option (Nat × Nat))) = 0 from rfl), k43_108]
              exact ⟨J, rfl, j2, fun t ht => (j3 t (by omega)).trans (cat_ne (by omega)), fun q z => by cases z⟩
            · rw [eg] at j2 j4 g2
              obtain ⟨J2, y1, y2, y3, y4⟩ := c48 (X := X) hp j2 (j4 ab rfl) hl g2.2.1
              rw [if_neg (show ¬ zb (Option.isSome (some ab)) = 0 from (by decide : ¬ (1 : Int32) = 0)), k43_96, y1, zcb_some, zn_one, k43_101]
              dsimp only at y2 y4 ⊢
              by_cases d : rCnt P p 6 j = 0
              · rw [decide_eq_false (fun z => z d), if_pos (show zb false = 0 from rfl), k43_108, if_pos d]
                rw [d, Nat.add_zero] at y2
                exact ⟨J2, rfl, y2, fun t ht => (y3 t ht).trans ((j3 t (by omega)).trans (cat_ne (by omega))), fun q z => by cases z⟩
              · rw [decide_eq_true d, if_neg (show ¬ zb true = 0 by decide), k43_104, if_neg d]
                refine ⟨J2, rfl, y2, fun t ht => (y3 t ht).trans ((j3 t (by omega)).trans (cat_ne (by omega))), fun q z => ?_⟩
                cases z
                exact y4
          · rw [c44n hp hA1 (by omega) (by decide) c2, zcb_some, zn_one, k43_84, if_pos rfl, k43_108, if_neg c2]
            exact ⟨_, rfl, hA1, fun t ht => cat_ne (by omega), fun q z => by cases z⟩
    · exact hend _ (Or.inr (nI_le (by omega) (by omega))) (fun z => by rw [Bool.and_eq_true, decide_eq_true_eq] at z; exact a5 z.2)
  · rw [if_neg a]
    exact hend _ (Or.inl (by decide)) (fun z => by rw [Bool.and_eq_true] at z; exact a z.1)
/-- read, behind a mark -/
theorem c42d {x : Int32} : zr X 42 20 [.ref 144, .ref 142, .int 0, .int x] [] (zk K) = some (some (.int (K 144 1)), zk K) := by
  have h : zr X 42 71 [.ref 144, .ref 142, .int 0, .int x] [] (zk K) = some (some (.int (K 144 1)), zk K) := by rw [k42_71, if_pos rfl, k42_80]
  rw [k42_20]
  by_cases a : (60 : Int32) ≤ x
  · rw [if_pos a, h]
  · rw [if_neg a, k42_26, if_pos rfl, h]
theorem c42n (hp : p ≤ 60) : ∀ f j l v3 K, cA P p K j → cRows P K l → 5 * l.length ≤ j + 1 → j ≤ p → v3 ≤ j → p < j + f → ∃ J, zr X 42 20 [.ref 144, .ref 142, .int 1, .int (nI v3)] [] (zk K) = some (some (.int (if (rNx P p f j l).2.1 = true then -6 else nI (rNx P p f j l).1)), zk J) ∧ (∀ t, t < 144 ∨ 153 ≤ t → J t = K t) ∧ ((rNx P p f j l).2.1 = true → cRows P J (rNx P p f j l).2.2) := by
  intro f
  induction f with
  | zero =>
    intro j l v3 K _ _ _ h4 _ h6
    omega
  | succ f ih =>
    intro j l v3 K hA hR h5 hj hv hf
    unfold rNx
    by_cases a : j < p
    · rw [if_pos a, k42_20, if_neg (show ¬ (60 : Int32) ≤ nI v3 from nI_ge (b := 60) (by omega) (by decide)), k42_26, if_neg (by decide), k42_30, hA.1, hA.2.2, if_neg (nI_ge a (by omega)), k42_41]
      by_cases b : sgn P p 44 j = true
      · obtain ⟨J, j1, j2, j3, j4⟩ := c43 (X := X) hp (cA_cat (j := j + 1) hA) (cRows_at hR (fun t t1 t2 => cat_ne (by omega))) (by omega) (show j + 1 ≤ p by omega)
        have g := rMk_le (P := P) (p := p) (i := j + 1) a
        rw [c44y hp hA (by omega) (by decide) b, zcb_some, zn_one, k42_48, if_neg (by decide), k42_51, j1, zcb_some, zn_one, k42_56, if_pos b]
        rcases eg : rMk P p (j + 1) with ⟨q, _ | r⟩
        · rw [eg] at j2
          rw [if_pos (show zb (Option.isSome (none : Option Rec)) = 0 from rfl), k42_63, c42d]
          dsimp only at j2 ⊢
          exact ⟨J, by rw [j2.2.2, if_neg (show ¬ false = true by decide)], fun t ht => (j3 t ht).trans (cat_ne (by omega)), fun z => by cases z⟩
        · rw [eg] at j2 j4 g
          have g1 : j + 1 + 4 ≤ q := (g.2.2 r rfl).1
          have g2 : q ≤ p := g.2.1
          rw [if_neg (show ¬ zb (Option.isSome (some r)) = 0 from (by decide : ¬ (1 : Int32) = 0)), k42_59, ← nI_succ]
          obtain ⟨J2, y1, y2, y3⟩ := ih q (l ++ [r]) (v3 + 1) J j2 (j4 r rfl) (by rw [List.length_append, List.length_singleton]; omega) g2 (by omega) (by omega)
          exact ⟨J2, y1, fun t ht => (y2 t ht).trans ((j3 t ht).trans (cat_ne (by omega))), y3⟩
      · rw [c44n hp hA (by omega) (by decide) b, zcb_some, zn_one, k42_48, if_pos rfl, k42_63, c42d, if_neg b]
        exact ⟨K, by rw [hA.2.2, if_neg (show ¬ false = true by decide)], fun _ _ => rfl, fun z => by cases z⟩
    · have h71 : zr X 42 71 [.ref 144, .ref 142, .int 1, .int (nI v3)] [] (zk K) = some (some (.int (-6)), zk K) := by rw [k42_71, if_neg (by decide), k42_75]
      rw [if_neg a, k42_20]
      refine ⟨K, ?_, fun _ _ => rfl, fun _ => hR⟩
      by_cases b : (60 : Int32) ≤ nI v3
      · rw [if_pos b, h71, if_pos rfl]
      · rw [if_neg b, k42_26, if_neg (by decide), k42_30, hA.1, hA.2.2, if_pos (nI_le (by omega) (by omega)), h71, if_pos rfl]
theorem c42 (hp : p ≤ 60) (h1 : K 142 1 = nI p) (h2 : ∀ k, k < p → K 143 k = P k) : ∃ J, zr X 42 0 [.ref 144, .ref 142, .null, .null] [] (zk K) = some (some (.int (if (rRd P p).2.1 = true then -6 else nI (rRd P p).1)), zk J) ∧ (∀ t, t < 144 ∨ 153 ≤ t → J t = K t) ∧ ((rRd P p).2.1 = true → cRows P J (rRd P p).2.2) := by
  have hA : cA P p (cat (zs1 K 145 7 0) 0) 0 := ⟨by rw [cat_ne (by decide), zs1_ne (by decide)]; exact h1, fun k hk => by rw [cat_ne (by decide), zs1_ne (by decide)]; exact h2 k hk, cat_at⟩
  have hR : cRows P (cat (zs1 K 145 7 0) 0) [] := ⟨by rw [cat_ne (by decide), zs1_self, upd_at, if_pos rfl]; rfl, fun r hr => absurd hr (Nat.not_lt_zero _)⟩
  obtain ⟨J, j1, j2, j3, j4⟩ := c43 (X := X) hp hA hR (by decide) (Nat.zero_le p)
  have hc : ∀ t, t < 144 ∨ 153 ≤ t → cat (zs1 K 145 7 0) 0 t = K t := fun t ht => (cat_ne (by omega)).trans (zs1_ne (by omega))
  have g := rMk_le (P := P) (p := p) (i := 0) (Nat.zero_le p)
  rw [k42_0, k4_0, zcb_some, zn_nil, k42_7]
  show ∃ J, zcb (zr X 43 0 [.ref 144, .ref 142, .null] [] (zk (cat (zs1 K 145 7 0) 0))) _ = _ ∧ _
  rw [j1, zcb_some, zn_one, k42_17]
  unfold rRd
  rcases eg : rMk P p 0 with ⟨q, _ | r⟩
  · rw [eg] at j2
    rw [show zb (Option.isSome (none : Option Rec)) = 0 from rfl, c42d]
    dsimp only at j2 ⊢
    exact ⟨J, by rw [j2.2.2, if_neg (show ¬ false = true by decide)], fun t ht => (j3 t ht).trans (hc t ht), fun z => by cases z⟩
  · rw [eg] at j2 j4 g
    have g1 : 0 + 4 ≤ q := (g.2.2 r rfl).1
    have g2 : q ≤ p := g.2.1
    obtain ⟨J2, y1, y2, y3⟩ := c42n (X := X) hp 61 q [r] 0 J j2 (j4 r rfl) (by show 5 * 1 ≤ q + 1; omega) g2 (Nat.zero_le _) (by omega)
    rw [nI_0] at y1
    exact ⟨J2, y1, fun t ht => (y2 t ht).trans ((j3 t ht).trans (hc t ht)), y3⟩
end R3
/-- what was read is well -/
theorem rNx_ok {P : Nat → Int32} {p : Nat} : ∀ f j l, (∀ q, q ∈ l → okR q) → 5 * l.length ≤ j + 1 → j ≤ p → (∀ q, q ∈ (rNx P p f j l).2.2 → okR q) ∧ 5 * (rNx P p f j l).2.2.length ≤ p + 1 ∧ (rNx P p f j l).1 ≤ p + 1
  | 0, j, l, h1, h2, h3 => by
    unfold rNx
    exact ⟨h1, by show 5 * l.length ≤ p + 1; omega, by show j ≤ p + 1; omega⟩
  | f + 1, j, l, h1, h2, h3 => by
    unfold rNx
    by_cases a : j < p
    · rw [if_pos a]
      by_cases b : sgn P p 44 j = true
      · rw [if_pos b]
        have g := rMk_le (P := P) (p := p) (i := j + 1) a
        rcases eg : rMk P p (j + 1) with ⟨q, _ | r⟩
        · rw [eg] at g
          have g2 : q ≤ p := g.2.1
          exact ⟨h1, by show 5 * l.length ≤ p + 1; omega, by show q ≤ p + 1; omega⟩
        · rw [eg] at g
          have g1 : j + 1 + 4 ≤ q := (g.2.2 r rfl).1
          have g2 : q ≤ p := g.2.1
          refine rNx_ok f q (l ++ [r]) (fun x hx => ?_) (by rw [List.length_append, List.length_singleton]; omega) g2
          rw [List.mem_append, List.mem_singleton] at hx
          rcases hx with hx | rfl
          · exact h1 x hx
          · exact (g.2.2 _ rfl).2
      · rw [if_neg b]
        exact ⟨h1, by show 5 * l.length ≤ p + 1; omega, by show j ≤ p + 1; omega⟩
    · rw [if_neg a]
      exact ⟨h1, by show 5 * l.length ≤ p + 1; omega, by show j ≤ p + 1; omega⟩
theorem rRd_ok {P : Nat → Int32} {p : Nat} : (∀ q, q ∈ (rRd P p).2.2 → okR q) ∧ 5 * (rRd P p).2.2.length ≤ p + 1 ∧ (rRd P p).1 ≤ p + 1 := by
  unfold rRd
  have g := rMk_le (P := P) (p := p) (i := 0) (Nat.zero_le p)
  rcases eg : rMk P p 0 with ⟨q, _ | r⟩
  · rw [eg] at g
    have g2 : q ≤ p := g.2.1
    exact ⟨fun q hq => (by cases hq), by show 5 * 0 ≤ p + 1; omega, by show q ≤ p + 1; omega⟩
  · rw [eg] at g
    have g1 : 0 + 4 ≤ q := (g.2.2 r rfl).1
    have g2 : q ≤ p := g.2.1
    refine rNx_ok 61 q [r] (fun x hx => ?_) (by show 5 * 1 ≤ q + 1; omega) g2
    rw [List.mem_singleton] at hx
    rw [hx]
    exact (g.2.2 r rfl).2
