/-! the class ships -/
section S7
variable {X : Nat × (Nat → Int32)} {I : Nat → Nat → Int32}
theorem gQ_stay {V : Nat → Nat → Int32} {n i : Nat} {K : Nat → Nat → Int32} (h : gQ V n n I K) (hv : vEq (vC I 6) V n) (hi : i < n) (hs : stay V n i = true) {w : Nat} (hw : w < 6) : vC K 6 w i = vS V n w i := by
  obtain ⟨h0, h1⟩ := h
  obtain ⟨a1, a2, a3⟩ := h1 i
  rw [if_pos ⟨hi, hs⟩] at a1 a2
  rw [if_neg (fun z => by rw [hs] at z; cases z.2.2)] at a3
  have hw5 : w = 0 ∨ w = 1 ∨ w = 2 ∨ w = 3 ∨ w = 4 ∨ w = 5 := by omega
  rcases hw5 with rfl | rfl | rfl | rfl | rfl | rfl
  · rw [vS_w (by decide) (by decide)]
    exact (congrFun (h0 6 (by decide) (by decide) (by decide)) i).trans (hv i 0 hi (by decide))
  · rw [vS_w (by decide) (by decide)]
    exact (congrFun (h0 7 (by decide) (by decide) (by decide)) i).trans (hv i 1 hi (by decide))
  · rw [vS_2 hs]
    exact a1
  · rw [vS_3 hs]
    exact a2
  · rw [vS_w (by decide) (by decide)]
    exact (congrFun (h0 11 (by decide) (by decide) (by decide)) i).trans (hv i 4 hi (by decide))
  · rw [vS_w (by decide) (by decide)]
    exact a3.trans (hv i 5 hi (by decide))
/-- carryOver -/
theorem c29 {t n : Nat} {V : Nat → Nat → Int32} {tw : Nat → Nat → Bool} (hn : n ≤ 20) (hs : I 5 7 = nI n) (hu : okU t n V (fun i => zb (decide (V 5 i = 1)))) (hv : vEq (vC I 6) V n) (htw : ∀ i j, i < n → j < n → tw i j = twin (vS V n) i j) : ∃ J, zr X 29 0 [.ref 5, .null, .null] [] (zk I) = some (none, zk J) ∧ J 5 7 = nI (kL (stay V n) tw n).length ∧ (∀ t, t < 5 ∨ 12 < t → J t = I t) ∧ (∀ r w, w < 6 → r < (kL (stay V n) tw n).length → vC J 6 w r = vS V n w ((kL (stay V n) tw n).getD r 0)) ∧ ∀ r k, k < 6 → r < (kL (stay V n) tw n).length → J 12 (6 * r + k) = I 12 (6 * (kL (stay V n) tw n).getD r 0 + k) := by
  obtain ⟨K, k1, k2⟩ := c29a (X := X) hn hs hu hv
  have hK5 : K 5 7 = nI n := by rw [k2.1 5 (by decide) (by decide) (by decide)]; exact hs
  obtain ⟨J, j1, j2, j3, j4, j5⟩ := c29b (X := X) (I := K) (st := stay V n) (tw := tw) hn hK5 (fun i hi => by
    have h10 := (k2.2 i).2.2
    have e10 : I 10 i = V 5 i := hv i 5 hi (by decide)
    rw [h10, e10]
    by_cases a : V 5 i = 0
    · by_cases b : stay V n i = true
      · rw [if_neg (fun z => by rw [b] at z; cases z.2.2), a, b]
        exact ⟨fun _ => rfl, fun _ => rfl⟩
      · rw [Bool.not_eq_true] at b
        rw [if_pos ⟨hi, a, b⟩, b]
        exact ⟨fun z => absurd z (by decide), fun z => absurd z (by decide)⟩
    · rw [if_neg (fun z => a z.2.1)]
      exact ⟨fun z => absurd z a, fun z => absurd (stay_0 z) a⟩) (fun i j hi hj si sj => by
    rw [htw i j hi hj]
    unfold twin
    rw [gQ_stay k2 hv hi si (w := 1) (by decide), gQ_stay k2 hv hj sj (w := 1) (by decide), gQ_stay k2 hv hi si (w := 0) (by decide), gQ_stay k2 hv hj sj (w := 0) (by decide), gQ_stay k2 hv hi si (w := 2) (by decide), gQ_stay k2 hv hj sj (w := 2) (by decide)])
  refine ⟨J, by rw [k1, j1], j2, fun t ht => (j3 t ht).trans (k2.1 t (by omega) (by omega) (by omega)), fun r w hw hr => ?_, fun r k hk hr => ?_⟩
  · obtain ⟨l1, l2⟩ := kL_lt hr
    have l3 : stay V n ((kL (stay V n) tw n).getD r 0) = true := by
      unfold kp at l2
      rw [Bool.and_eq_true] at l2
      exact l2.1
    rw [j4 r w hw hr]
    exact gQ_stay k2 hv l1 l3 hw
  · rw [j5 r k hk hr, k2.1 12 (by decide) (by decide) (by decide)]
/-- the print becomes the text -/
theorem c60a {l : Nat} (hl : l ≤ 60) (h4 : I 153 4 = nI l) : ∃ J, zr X 60 0 [.ref 2, .ref 153, .null] [] (zk I) = zr X 60 35 [.ref 2, .ref 153, .int (nI l)] [] (zk J) ∧ J 3 1 = nI l ∧ (∀ k, k < l → J 4 k = I 157 k) ∧ ∀ t, t ≠ 3 → t ≠ 4 → J t = I t := by
  rw [k60_0, k65_0, zcb_some, zn_nil, k60_7]
  have h : ∀ k q K, q + k = l → K 3 1 = nI q → (∀ k, k < q → K 4 k = I 157 k) → (∀ t, t ≠ 3 → t ≠ 4 → K t = I t) → ∃ J, zr X 60 9 [.ref 2, .ref 153, .int (nI q)] [] (zk K) = zr X 60 35 [.ref 2, .ref 153, .int (nI l)] [] (zk J) ∧ J 3 1 = nI l ∧ (∀ k, k < l → J 4 k = I 157 k) ∧ ∀ t, t ≠ 3 → t ≠ 4 → J t = I t := by
    intro k
    induction k with
    | zero =>
      intro q K hq a1 a2 a3
      have e : q = l := by omega
      subst e
      exact ⟨K, by rw [k60_9, a3 153 (by decide) (by decide), h4, if_pos (nI_le (Nat.le_refl _) (by omega))], a1, a2, a3⟩
    | succ k ih =>
      intro q K hq a1 a2 a3
      have hq2 : q < l := by omega
      have hK4 : K 153 4 = nI l := by rw [a3 153 (by decide) (by decide)]; exact h4
      rw [k60_9, hK4, if_neg (nI_ge hq2 (by omega)), k60_17, c80y (show l ≤ 180 by omega) hK4 hq2, zcb_some]
      show ∃ J, zr X 60 26 [.ref 2, .ref 153, .int (nI q)] [.int (K 157 q), .ref 3] (zk K) = _ ∧ _
      rw [k60_26, k66_0, a1, if_neg (show ¬ (60 : Int32) ≤ nI q from nI_ge (b := 60) (by omega) (by decide)), k66_9 (by rw [a1]; exact zin_nI (by omega) (by decide)), a1, zx_nI (by omega), ← nI_succ, zcb_some, zn_nil, k60_29, ← nI_succ]
      refine ih (q + 1) _ (by omega) (by rw [zs1_self, upd_at, if_pos rfl]) (fun j hj => ?_) (fun t t1 t2 => (zs1_ne t1).trans ((zs1_ne t2).trans (a3 t t1 t2)))
      rw [zs1_ne (show (4 : Nat) ≠ 3 by decide), zs1_self, upd_at]
      by_cases e : j = q
      · rw [if_pos e, e, a3 157 (by decide) (by decide)]
      · rw [if_neg e]
        exact a2 j (by omega)
  have h1 := h l 0 (zs1 I 3 1 0) (by omega) (by rw [zs1_self, upd_at, if_pos rfl, nI_0]) (fun k hk => absurd hk (Nat.not_lt_zero _)) (fun t t1 _ => zs1_ne t1)
  rw [nI_0] at h1
  exact h1
theorem c73 {v : Nat} (hv : v < 700) (hs : I 13 2 = nI v) : zr X 73 0 [.ref 13, .ref 3, .null] [] (zk I) = some (none, zk (zs1 (zs1 (zs2 I 4 14 0 (60 * (v % 6)) 60) 15 (v % 6) (I 3 1)) 13 2 (nI (v + 1)))) := by
  have h6 := (rem6_all v hv).2
  have hm : v % 6 < 6 := Nat.mod_lt _ (by decide)
  have e1 : nI (v % 6) * 60 = nI (60 * (v % 6)) := by
    rw [Nat.mul_comm, zI_mul]
    rfl
  rw [k73_0 (by rw [hs, h6, e1]; exact nI_pos (by omega)) (by rw [hs, h6, e1, zx_nI (by omega)]; omega) (by rw [hs, h6]; exact zin_nI hm (by decide)), hs, h6, e1, zx_nI (by omega), zx_nI (by omega), ← nI_succ]
theorem c60 {t n v l : Nat} {V : Nat → Nat → Int32} {tw : Nat → Nat → Bool} (hn : n ≤ 20) (hs : I 5 7 = nI n) (hu : okU t n V (fun i => zb (decide (V 5 i = 1)))) (hv : vEq (vC I 6) V n) (htw : ∀ i j, i < n → j < n → tw i j = twin (vS V n) i j) (hv7 : v < 700) (hs13 : I 13 2 = nI v) (hl : l ≤ 60) (h4 : I 153 4 = nI l) : ∃ J, zr X 60 0 [.ref 2, .ref 153, .null] [] (zk I) = some (none, zk J) ∧ J 3 1 = nI l ∧ (∀ k, k < l → J 4 k = I 157 k) ∧ J 13 2 = nI (v + 1) ∧ (∀ r, J 15 r = if r = v % 6 then nI l else I 15 r) ∧ (∀ k, k < l → J 14 (60 * (v % 6) + k) = I 157 k) ∧ (∀ x, ¬ (60 * (v % 6) ≤ x ∧ x < 60 * (v % 6) + 60) → J 14 x = I 14 x) ∧ J 5 7 = nI (kL (stay V n) tw n).length ∧ (∀ r w, w < 6 → r < (kL (stay V n) tw n).length → vC J 6 w r = vS V n w ((kL (stay V n) tw n).getD r 0)) ∧ (∀ r k, k < 6 → r < (kL (stay V n) tw n).length → J 12 (6 * r + k) = I 12 (6 * (kL (stay V n) tw n).getD r 0 + k)) ∧ ∀ t, t < 3 ∨ 15 < t → J t = I t := by
  obtain ⟨K, k1, k2, k3, k4⟩ := c60a (X := X) hl h4
  have hK13 : K 13 2 = nI v := by rw [k4 13 (by decide) (by decide)]; exact hs13
  generalize hP : zs1 (zs1 (zs2 K 4 14 0 (60 * (v % 6)) 60) 15 (v % 6) (K 3 1)) 13 2 (nI (v + 1)) = P
  have hPo : ∀ t, t ≠ 13 → t ≠ 14 → t ≠ 15 → P t = K t := fun t t1 t2 t3 => by rw [← hP, zs1_ne t1, zs1_ne t3, zs2_ne t2]
  have hP5 : P 5 7 = nI n := by rw [hPo 5 (by decide) (by decide) (by decide), k4 5 (by decide) (by decide)]; exact hs
  have hPv : vEq (vC P 6) V n := vEq_cells (fun q q1 q2 => (hPo q (by omega) (by omega) (by omega)).trans (k4 q (by omega) (by omega))) hv
  obtain ⟨J, j1, j2, j3, j4, j5⟩ := c29 (X := X) (I := P) hn hP5 hu hPv htw
  refine ⟨J, ?_, ?_, fun k hk => ?_, ?_, fun r => ?_, fun k hk => ?_, fun x hx => ?_, j2, j4, fun r k hk hr => ?_, fun t ht => ?_⟩
  · rw [k1, k60_35, c73 hv7 hK13, zcb_some, zn_nil, k60_46, hP, j1, zcb_some, zn_nil, k60_53]
  · rw [j3 3 (by decide), hPo 3 (by decide) (by decide) (by decide)]
    exact k2
  · rw [j3 4 (by decide), hPo 4 (by decide) (by decide) (by decide)]
    exact k3 k hk
  · rw [j3 13 (by decide), ← hP, zs1_self, upd_at, if_pos rfl]
  · rw [j3 15 (by decide), ← hP, zs1_ne (by decide), zs1_self, upd_at, zs2_ne (by decide), k2, k4 15 (by decide) (by decide)]
  · rw [j3 14 (by decide), ← hP, zs1_ne (by decide), zs1_ne (by decide), zs2_self, cpy_at, if_pos (by omega), show 0 + (60 * (v % 6) + k - 60 * (v % 6)) = k by omega]
    exact k3 k hk
  · rw [j3 14 (by decide), ← hP, zs1_ne (by decide), zs1_ne (by decide), zs2_self, cpy_at, if_neg hx, k4 14 (by decide) (by decide)]
  · rw [j5 r k hk hr, hPo 12 (by decide) (by decide) (by decide), k4 12 (by decide) (by decide)]
  · rw [j3 t (by omega), hPo t (by omega) (by omega) (by omega), k4 t (by omega) (by omega)]
end S7
/-- marks that stayed keep to what marks keep to -/
theorem sGs_none {V : Nat → Nat → Int32} {a : Int32} : ∀ n, (∀ i, i < n → ¬ V 5 i = 1) → sGs V n a = a
  | 0, _ => rfl
  | n + 1, h => by
    rw [sGs_S, if_neg (h n (by omega))]
    exact sGs_none n (fun i hi => h i (by omega))
theorem kp_stay {st : Nat → Bool} {tw : Nat → Nat → Bool} {i : Nat} (h : kp st tw i = true) : st i = true := by
  unfold kp at h
  rw [Bool.and_eq_true] at h
  exact h.1
theorem kp_no {st : Nat → Bool} {tw : Nat → Nat → Bool} {i j : Nat} (h : kp st tw i = true) (hj : kp st tw j = true) (hji : j < i) : tw i j = false := by
  unfold kp at h
  rw [Bool.and_eq_true, Bool.not_eq_true', kL_any] at h
  have h2 := (zan_false _ _).mp h.2 j (Nat.zero_le _) (by omega)
  rw [hj, Bool.true_and] at h2
  exact h2
theorem wMs_ship {t t' n n' : Nat} {V V' : Nat → Nat → Int32} {tw : Nat → Nat → Bool} (hn : n ≤ 20) (ht : t ≤ 60) (hw : wMs t n V) (ht' : cg V n true t ≤ t') (ht2 : t' ≤ 60) (htw : ∀ i j, i < n → j < n → tw i j = twin (vS V n) i j) (f : Nat → Nat) (hf : ∀ r, r < n' → f r < n ∧ kp (stay V n) tw (f r) = true) (hj : ∀ r q, r < n' → q < n' → r ≠ q → f r ≠ f q) (hv : ∀ r w, r < n' → w < 6 → V' w r = vS V n w (f r)) : wMs t' n' V' := by
  have hu := okU_pr ht hw
  have h5 : ∀ r, r < n' → V' 5 r = 0 := by
    intro r hr
    obtain ⟨f1, f2⟩ := hf r hr
    rw [hv r 5 hr (by decide), vS_w (by decide) (by decide)]
    exact stay_0 (kp_stay f2)
  refine ⟨fun r hr => ?_, fun r q hr hq hrq h0 _ _ => ?_, fun r q hr hq _ h1 _ => ?_⟩
  · obtain ⟨f1, f2⟩ := hf r hr
    obtain ⟨e, k, a, b, p, h, g0, g1, g2, g3, g4, g5, gr⟩ := wM_stay hn hu ht' (kp_stay f2) f1
    exact ⟨e, k, a, b, p, h, (hv r 0 hr (by decide)).trans g0, (hv r 1 hr (by decide)).trans g1, (hv r 2 hr (by decide)).trans g2, (hv r 3 hr (by decide)).trans g3, (hv r 4 hr (by decide)).trans g4, (hv r 5 hr (by decide)).trans g5, gr⟩
  · obtain ⟨f1, f2⟩ := hf r hr
    obtain ⟨q1, q2⟩ := hf q hq
    have hne := hj r q hr hq hrq
    have s1 := kp_stay f2
    have s2 := kp_stay q2
    have e0 : V 0 (f r) = V 0 (f q) := by
      rw [hv r 0 hr (by decide), hv q 0 hq (by decide), vS_w (by decide) (by decide), vS_w (by decide) (by decide)] at h0
      exact h0
    have hc := hw.2.1 (f r) (f q) f1 q1 hne e0 (by rw [stay_0 s1]; decide) (by rw [stay_0 s2]; decide)
    have hs : sC V' r q = sC (vS V n) (f r) (f q) := by
      unfold sC
      rw [hv r 1 hr (by decide), hv r 2 hr (by decide), hv r 3 hr (by decide), hv q 1 hq (by decide), hv q 2 hq (by decide), hv q 3 hq (by decide)]
    rw [hs]
    refine sC_stay hn hu ht' ht2 f1 q1 s1 s2 hc (fun k1 k2 hA => ?_)
    have wr := wM_N (hw.1 (f r) f1) ht
    have wq := wM_N (hw.1 (f q) q1) ht
    have hT : twin (vS V n) (f r) (f q) = true ∧ twin (vS V n) (f q) (f r) = true := by
      unfold twin
      rw [vS_2 s1, vS_2 s2, vS_w (w := 0) (by decide) (by decide), vS_w (w := 0) (by decide) (by decide), vS_w (w := 1) (by decide) (by decide), vS_w (w := 1) (by decide) (by decide), wr.1, wq.1, k1, k2, e0, hA]
      simp
      decide
    rcases Nat.lt_or_ge (f r) (f q) with z | z
    · have := kp_no q2 f2 z
      rw [htw _ _ q1 f1, hT.2] at this
      cases this
    · have := kp_no f2 q2 (by omega)
      rw [htw _ _ f1 q1, hT.1] at this
      cases this
  · rw [h5 r hr] at h1
    exact absurd h1 (by decide)
