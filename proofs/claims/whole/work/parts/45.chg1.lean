/-! CALLS THAT ARE CHANGES: what is kept of parts; rank, refuse, accept -/
theorem hT_c {I J : Nat → Nat → Int32} {b t : Nat} {S S' : Nat → Int32} (ht : t ≤ 60) (h0 : S 0 = nI t) (h1 : J (b + 1) = I (b + 1)) (h2 : J (b + 2) = I (b + 2)) (hs : ∀ k, k < 61 → S' k = S k) (h : hT I b S) : hT J b S' := by
  obtain ⟨a1, a2⟩ := h
  refine ⟨by rw [h1, hs 0 (by decide)]; exact a1, fun k hk => ?_⟩
  rw [hs 0 (by decide)] at hk
  have hk2 := hk
  rw [h0, zx_nI (by omega)] at hk2
  rw [h2, hs (1 + k) (by omega)]
  exact a2 k hk
theorem hE_c {I J : Nat → Nat → Int32} {b : Nat} {S S' : Nat → Int32} (h1 : J (b + 14) = I (b + 14)) (hs : ∀ k, 61 ≤ k → k < 66 → S' k = S k) (h : hE I b S) : hE J b S' := by
  intro k hk
  rw [h1, hs _ (by omega) (by omega)]
  exact h k hk
theorem hV_c {c : Nat} {I J : Nat → Nat → Int32} {b : Nat} {S S' : Nat → Int32} (hw : wV c S) (h1 : J (b + 11) = I (b + 11)) (h2 : J (b + 12) = I (b + 12)) (h3 : J (b + 13) = I (b + 13)) (hs : ∀ k, 307 ≤ k → k < 675 → S' k = S k) (h : hV I b S) : hV J b S' := by
  obtain ⟨v, w1, w2, w3, w4⟩ := hw
  obtain ⟨d1, d2⟩ := h
  refine ⟨by rw [h1, hs _ (by decide) (by decide)]; exact d1, fun j hj => ?_⟩
  rw [hs 308 (by decide) (by decide)] at hj
  have hj6 : j < min v 6 := by
    rw [w3, zx_nI (by omega)] at hj
    exact hj
  obtain ⟨l, e1, e2⟩ := w4 j hj6
  obtain ⟨f1, f2⟩ := d2 j hj
  rw [hs 307 (by decide) (by decide), hs (309 + 61 * j) (by omega) (by omega), h3, h2]
  refine ⟨f1, fun k hk => ?_⟩
  have hk2 := hk
  rw [e2, zx_nI (by omega)] at hk2
  rw [hs _ (by omega) (by omega)]
  exact f2 k hk
theorem wE_c {S S' : Nat → Int32} (hs : ∀ k, 61 ≤ k → k < 66 → S' k = S k) (h : wE S) : wE S' := by
  intro k hk
  rw [hs _ (by omega) (by omega)]
  exact h k hk
theorem wV_c {c : Nat} {S S' : Nat → Int32} (hs : ∀ k, 307 ≤ k → k < 675 → S' k = S k) (h : wV c S) : wV c S' := by
  obtain ⟨v, w1, w2, w3, w4⟩ := h
  refine ⟨v, w1, by rw [hs _ (by decide) (by decide)]; exact w2, by rw [hs _ (by decide) (by decide)]; exact w3, fun j hj => ?_⟩
  rw [hs _ (by omega) (by omega)]
  exact w4 j hj
theorem wK_c {S S' : Nat → Int32} {t n : Nat} (h0 : S' 0 = S 0) (hs : ∀ k, 66 ≤ k → k < 307 → S' k = S k) (h : wK S t n) : wK S' t n := by
  obtain ⟨h1, h2, h3, h4, h5, h6⟩ := h
  have hv : ∀ i w, i < n → w < 6 → vR S w i = vR S' w i := fun i w hi hw => (hs _ (by omega) (by omega)).symm
  refine ⟨h1, h2, h0.trans h3, (hs _ (by decide) (by decide)).trans h4, wMs_at hv h5, ?_⟩
  rw [← sGs_at hv, h0]
  exact h6
theorem hK_c {I J : Nat → Nat → Int32} {t n : Nat} {S S' : Nat → Int32} (hw : wK S t n) (h1 : ∀ q, 5 ≤ q → q ≤ 12 → J q = I q) (hs : ∀ k, 66 ≤ k → k < 307 → S' k = S k) (h : hK I 2 S) : hK J 2 S' := by
  have hn := wK_n hw
  have h20 : n ≤ 20 := hw.2.1
  obtain ⟨b1, b2, b3⟩ := h
  refine ⟨?_, fun i w hi hw' => ?_, fun i k hi hk => ?_⟩
  · show J 5 7 = _
    rw [h1 5 (by decide) (by decide), hs 66 (by decide) (by decide)]
    exact b1
  · rw [hs 66 (by decide) (by decide), hn] at hi
    have e : vR S' w i = vR S w i := hs _ (by omega) (by omega)
    rw [e, ← b2 i w (by rw [hn]; exact hi) hw']
    have hw5 : w = 0 ∨ w = 1 ∨ w = 2 ∨ w = 3 ∨ w = 4 ∨ w = 5 := by omega
    rcases hw5 with rfl | rfl | rfl | rfl | rfl | rfl
    · exact congrFun (h1 6 (by decide) (by decide)) i
    · exact congrFun (h1 7 (by decide) (by decide)) i
    · exact congrFun (h1 8 (by decide) (by decide)) i
    · exact congrFun (h1 9 (by decide) (by decide)) i
    · exact congrFun (h1 11 (by decide) (by decide)) i
    · exact congrFun (h1 10 (by decide) (by decide)) i
  · rw [hs 66 (by decide) (by decide), hn] at hi
    have e4 : vR S' 4 i = vR S 4 i := hs _ (by omega) (by omega)
    rw [e4] at hk
    have hp := (wM_p (hw.2.2.2.2.1.1 i hi)).1
    have e : vR S' (6 + k) i = vR S (6 + k) i := hs _ (by omega) (by omega)
    rw [e, ← b3 i k (by rw [hn]; exact hi) hk]
    exact congrFun (h1 12 (by decide) (by decide)) _
/-- marks of which only how they are has changed -/
theorem hK_5 {I J : Nat → Nat → Int32} {n : Nat} {S S' : Nat → Int32} (hn : zx (S 66) = n) (h5 : J 5 7 = I 5 7) (hc : ∀ q, 6 ≤ q → q ≤ 12 → q ≠ 10 → J q = I q) (h66 : S' 66 = S 66) (hv : ∀ i w, i < n → w < 12 → w ≠ 5 → vR S' w i = vR S w i) (h10 : ∀ i, i < n → J 10 i = vR S' 5 i) (hp : ∀ i, i < n → zx (vR S 4 i) ≤ 6) (h : hK I 2 S) : hK J 2 S' := by
  obtain ⟨b1, b2, b3⟩ := h
  have b1 : I 5 7 = S 66 := b1
  refine ⟨?_, fun i w hi hw => ?_, fun i k hi hk => ?_⟩
  · show J 5 7 = S' 66
    rw [h5, h66, b1]
  · rw [h66, hn] at hi
    have h := b2 i w (by rw [hn]; exact hi) hw
    by_cases e : w = 5
    · subst e
      exact h10 i hi
    · rw [hv i w hi (by omega) e, ← h]
      have hw5 : w = 0 ∨ w = 1 ∨ w = 2 ∨ w = 3 ∨ w = 4 := by omega
      rcases hw5 with rfl | rfl | rfl | rfl | rfl
      · exact congrFun (hc 6 (by decide) (by decide) (by decide)) i
      · exact congrFun (hc 7 (by decide) (by decide) (by decide)) i
      · exact congrFun (hc 8 (by decide) (by decide) (by decide)) i
      · exact congrFun (hc 9 (by decide) (by decide) (by decide)) i
      · exact congrFun (hc 11 (by decide) (by decide) (by decide)) i
  · rw [h66, hn] at hi
    rw [hv i 4 hi (by decide) (by decide)] at hk
    have := hp i hi
    rw [hv i (6 + k) hi (by omega) (by omega)]
    show J 12 (6 * i + k) = _
    rw [hc 12 (by decide) (by decide) (by decide)]
    exact b3 i k (by rw [hn]; exact hi) hk
section B1
variable {X : Nat × (Nat → Int32)} {I : Nat → Nat → Int32}
/-- the class records -/
theorem c1x {c : Nat} (h : iH c I) : ∃ J, zr X 1 0 [.ref 17, .ref 2] [] (zk I) = some (none, zk J) ∧ (∀ t, t ≠ 17 → t ≤ 19 ∨ 109 ≤ t → J t = I t) ∧ rC I J := by
  obtain ⟨u, x, G, h1, h2, h3, h5, h6, h7⟩ := h
  obtain ⟨J, e1, e2, e3, e4, e5⟩ := c1 (X := X) h2 h1 h6 h5
  refine ⟨J, e1, fun t t1 t2 => e2 t t1 (by omega), fun u' x' hu' hx' a1 a2 => ?_⟩
  have ex : x' = x := by
    rw [h6] at a1
    exact ((nI_inj (by omega) (by omega)).mp a1).symm
  have eu : u' = u := by
    rw [h5] at a2
    exact ((nI_inj (by omega) (by omega)).mp a2).symm
  subst ex eu
  exact ⟨e3, e4, e5, fun t t1 t2 t3 => e2 t (by omega) t3⟩
theorem rC_hi {I1 J : Nat → Nat → Int32} (h : rC I I1) (hs : ∀ t, 17 ≤ t → t < 109 → J t = I1 t) : rC I J := by
  intro u x hu hx h1 h2
  obtain ⟨a1, a2, a3, a4⟩ := h u x hu hx h1 h2
  have hq : ∀ q, q < 15 → J (19 + 15 * x + q) = I1 (19 + 15 * x + q) := fun q hq => hs _ (by omega) (by omega)
  refine ⟨by rw [hs 17 (by decide) (by decide)]; exact a1, by rw [hs 17 (by decide) (by decide)]; exact a2, ?_, fun t t1 t2 t3 => (hs t (by omega) t2).trans (a4 t t1 t2 t3)⟩
  obtain ⟨g1, g2, g3, g4, g5, g6, g7, g8, g9⟩ := a3
  refine ⟨?_, fun k hk => ?_, ?_, fun q q1 q2 k hk => ?_, fun k hk => ?_, ?_, fun k hk => ?_, fun k hk => ?_, fun k hk => ?_⟩ <;> rw [hq _ (by omega)]
  · exact g1
  · exact g2 k hk
  · exact g3
  · exact g4 q q1 q2 k hk
  · exact g5 k hk
  · exact g6
  · exact g7 k hk
  · exact g8 k hk
  · exact g9 k hk
theorem m121y {c : Nat} (h : iH c I) {I1 : Nat → Nat → Int32} (h160 : I1 160 4 = I 160 4) : ∃ J, zr X 121 0 [.ref 160, .null] [] (zk I1) = some (none, zk J) ∧ (∀ t, t ≠ 160 → t ≠ 163 → J t = I1 t) ∧ (∀ k, k ≠ 4 → J 160 k = I1 160 k) ∧ rM I1 J (I1 161) := by
  obtain ⟨u, x, G, h1, h2, h3, h5, h6, h7⟩ := h
  exact m121x h1 (h160.trans h3)
/-- a change of what is now: the class recorded into R and left J1, the reference left J -/
theorem inv_chg {c : Nat} {J1 R J K : Nat → Nat → Int32} {S' : Nat → Int32} (h : Inv c I) (hr : rC I R) (hR0 : ∀ t, t ≠ 17 → t ≤ 19 ∨ 109 ≤ t → R t = I t) (h1 : ∀ t, 17 ≤ t → t < 144 ∨ 160 ≤ t → J1 t = R t)
    (hM : rM (zs1 J1 160 0 0) K (I 161)) (hK : ∀ t, t ≠ 160 → t ≠ 163 → K t = J1 t) (hK8 : K 160 8 = J1 160 8) (hJ : ∀ t, t ≠ 161 → t < 160 ∨ 163 ≤ t ∧ t < 167 → J t = K t) (hJ4 : J 160 4 = K 160 4) (hJ8 : J 160 8 = K 160 8) (hS : J 161 = S') (hn : hR J1 2 S') (hw : wS (c + 1) S') : Inv (c + 1) J := by
  have hI := h
  obtain ⟨⟨n1, n2⟩, hh, hl, hp⟩ := h
  have hhi : ∀ t, 109 ≤ t → t < 144 ∨ 160 ≤ t → J1 t = I t := fun t t1 t2 => (h1 t (by omega) t2).trans (hR0 t (by omega) (Or.inr t1))
  have hJ1 : ∀ t, t < 160 → J t = J1 t := fun t ht => (hJ t (by omega) (Or.inl ht)).trans (hK t (by omega) (by omega))
  have e4 : J1 160 4 = I 160 4 := congrFun (hhi 160 (by decide) (Or.inr (by decide))) 4
  have hth : zs1 J1 160 0 0 160 4 = J1 160 4 := by rw [zs1_self, upd_at, if_neg (by decide)]
  have h163 : zs1 J1 160 0 0 163 = J1 163 := zs1_ne (by decide)
  have hM1 : rM J1 J (I 161) := by
    intro u hu hu4
    obtain ⟨a1, a2⟩ := hM u hu (hth.trans hu4)
    refine ⟨hJ4.trans a1, fun j hj k hk => ?_⟩
    rw [hJ 163 (by decide) (Or.inr (by decide))]
    rw [← h163]
    exact a2 j hj k hk
  refine inv_r (I1 := J1) (T := I 161) hI ⟨rC_hi hr (fun t t1 t2 => h1 t t1 (Or.inl (by omega))), hhi _ (by decide) (Or.inl (by decide)), fun t t1 t2 => hhi t (by omega) (Or.inl (by omega)), fun t t1 => hhi t (by omega) (Or.inr t1)⟩ ⟨hhi _ (by decide) (Or.inl (by decide)), hhi _ (by decide) (Or.inl (by decide))⟩ ⟨hM1, hJ1, (hJ _ (by decide) (Or.inr (by decide))).trans (hK _ (by decide) (by decide)), (hJ _ (by decide) (Or.inr (by decide))).trans (hK _ (by decide) (by decide))⟩ ⟨hJ8.trans hK8, (hJ _ (by decide) (Or.inr (by decide))).trans (hK _ (by decide) (by decide))⟩ n1 n2 ?_ ?_
  · rw [hS]
    exact hR_cells (fun t t1 t2 => hJ1 t (by omega)) hn
  · rw [hS]
    exact hw
/-- rank -/
theorem p_rank {c : Nat} (hI : Inv c I) (v w : Int32) : Call X c I 89 [.ref 1, .int v, .int w, .null] 137 [.ref 160, .int v, .int w, .null] := by
  have hend := inv_q hI cQ_rf (mQ_th (v := 0))
  rcases mk_cases (n := 5) (by omega) v with hb | ⟨e, he, rfl⟩
  · refine ⟨-1, I, zs1 I 160 0 0, ?_, ?_, hend⟩
    · rw [k89_0, c113n hb, zcb_some, zn_one, k89_4, if_neg (by decide), k89_7]
    · rw [k137_0, m120n hb, zcb_some, zn_one, k137_9, if_neg (by decide), k137_12]
  · rcases mk_cases (n := 10) (by omega) w with hb | ⟨q, hq, rfl⟩
    · refine ⟨-2, I, zs1 I 160 0 0, ?_, ?_, hend⟩
      · rw [k89_0, c113y he, zcb_some, zn_one, k89_4, if_pos (by decide), k89_9]
        by_cases h0 : w < 0
        · rw [if_pos h0, k89_19]
        · rw [if_neg h0, k89_13, if_neg, k89_19]
          intro z
          exact absurd (Int32.le_trans (hb.resolve_left h0) z) (by decide)
      · have hb9 : w < 0 ∨ nI 9 < w := hb.imp id (fun z => Int32.lt_of_lt_of_le (show nI 9 < nI 10 by decide) z)
        rw [k137_0, m120y he, zcb_some, zn_one, k137_9, if_pos (by decide), k137_14, show (9 : Int32) = nI 9 from rfl, m116n (by decide) hb9, zcb_some, zn_one, k137_21, if_neg (by decide), k137_24]
    · obtain ⟨R, r1, r2, r3⟩ := c1x (X := X) hI.2.1
      have r16 : R 16 = I 16 := r2 16 (by decide) (by decide)
      have hR : ∀ t, 160 ≤ t → zs1 R 16 e (nI q) t = I t := fun t ht => (zs1_ne (by omega)).trans (r2 t (by omega) (by omega))
      obtain ⟨K, k1, k2, k3, k4⟩ := m121y (X := X) hI.2.1 (I1 := zs1 (zs1 R 16 e (nI q)) 160 0 0) (by rw [zs1_self, upd_at, if_neg (by decide), hR _ (by decide)])
      have k161 : K 161 = I 161 := (k2 161 (by decide) (by decide)).trans ((zs1_ne (by decide)).trans (hR _ (by decide)))
      have e61 : (61 : Int32) + nI e = nI (61 + e) := by rw [zI_add]; rfl
      have hk := hI.1.1.2.2.1 e he
      have hk : I 16 e = I 161 (61 + e) := hk
      refine ⟨I 161 (61 + e), zs1 R 16 e (nI q), zs1 K 161 (61 + e) (nI q), ?_, ?_, ?_⟩
      · rw [k89_0, c113y he, zcb_some, zn_one, k89_4, if_pos (by decide), k89_9, if_neg (nI_pos (by omega)), k89_13, if_pos (show nI q ≤ 9 from nI_le (b := 9) (by omega) (by decide)), k89_22, r1, zcb_some, zn_nil, k89_33 (zin_nI he (by decide)), zx_nI (by omega), r16, hk]
      · rw [k137_0, m120y he, zcb_some, zn_one, k137_9, if_pos (by decide), k137_14, show (9 : Int32) = nI 9 from rfl, m116y (by omega) (by decide), zcb_some, zn_one, k137_21, if_pos (by decide), k137_27, k1, zcb_some, zn_nil, k137_31 (by rw [e61]; exact zin_nI (by omega) (by decide)), e61, zx_nI (by omega), k161]
      · have hu : ∀ k, k ≠ 61 + e → upd (I 161) (61 + e) (nI q) k = I 161 k := fun k hk => by rw [upd_at, if_neg hk]
        obtain ⟨⟨t, n, hwk⟩, hwe, hwv⟩ := hI.1.2
        refine inv_chg (S' := upd (I 161) (61 + e) (nI q)) (K := K) hI r3 r2 (fun t t1 t2 => zs1_ne (by omega)) ?_ (fun t t1 t2 => (k2 t t1 t2).trans (zs1_ne t1)) ?_ (fun t t1 t2 => zs1_ne t1) ?_ ?_ ?_ ?_ ?_
        · rw [zs1_ne (t := 160) (by decide), hR 161 (by decide)] at k4
          exact k4
        · rw [k3 8 (by decide), zs1_self, upd_at, if_neg (by decide)]
        · rw [zs1_ne (by decide)]
        · rw [zs1_ne (by decide)]
        · rw [zs1_self, k161]
        · have hn2 : ∀ z, z < 16 → 2 < z → zs1 R 16 e (nI q) z = I z := fun z hz _ => (zs1_ne (by omega)).trans (r2 z (by omega) (by omega))
          refine ⟨hT_c hwk.1 hwk.2.2.1 (hn2 3 (by decide) (by decide)) (hn2 4 (by decide) (by decide)) (fun k hk => hu k (by omega)) hI.1.1.1, hK_c hwk (fun t t1 t2 => hn2 t (by omega) (by omega)) (fun k k1 k2 => hu k (by omega)) hI.1.1.2.1, fun k hk => ?_, hV_c hwv (hn2 13 (by decide) (by decide)) (hn2 14 (by decide) (by decide)) (hn2 15 (by decide) (by decide)) (fun k k1 k2 => hu k (by omega)) hI.1.1.2.2.2⟩
          show zs1 R 16 e (nI q) 16 k = _
          rw [zs1_self, r16, upd_at, upd_at]
          by_cases hke : k = e
          · rw [if_pos hke, if_pos (by omega)]
          · rw [if_neg hke, if_neg (by omega)]
            exact hI.1.1.2.2.1 k hk
        · refine ⟨⟨t, n, wK_c (hu 0 (by omega)) (fun k k1 k2 => hu k (by omega)) hwk⟩, fun k hk => ?_, wV_le (wV_c (fun k k1 k2 => hu k (by omega)) hwv) (Nat.le_succ c)⟩
          rw [upd_at]
          by_cases hke : k = e
          · exact ⟨q, hq, if_pos (by omega)⟩
          · rw [if_neg (by omega)]
            exact hwe k hk
end B1
