/-! mark -/
section K2
variable {X : Nat × (Nat → Int32)} {I : Nat → Nat → Int32}
theorem zMade {c t : Nat} {P : Nat → Int32} {l : List Rec} (hl : l.length ≤ 13) (hok : ∀ r, r < l.length → okR (l.getD r d0)) (ht : t ≤ 60) : ∀ (k d n : Nat) (K : Nat → Nat → Int32), d + k = l.length → n ≤ 20 → K 5 7 = nI n → K 3 1 = nI t → cRows P K l → ∃ (K' : Nat → Nat → Int32) (m : Nat), m ≤ l.length ∧ zr X 90 32 [.ref 1, .int (nI d)] [] (zk K) = zr X 90 88 [.ref 1, .int (nI m)] [] (zk K') ∧ (∀ t, t < 5 ∨ 12 < t → K' t = K t) ∧ ∀ (M : Nat → Nat → Int32) (S : Nat → Int32), mRows P M l → hR K 2 S → wK S t n → wS c S → ∃ S', hR K' 2 S' ∧ wS c S' ∧ zr X 142 28 [.ref 160, .int (nI d)] [] (zk (zup M 161 S)) = zr X 142 53 [.ref 160, .int (nI m)] [] (zk (zup M 161 S')) := by
  intro k
  induction k with
  | zero =>
    intro d n K hd hn h5 h3 hr
    refine ⟨K, d, by omega, ?_, fun _ _ => rfl, fun M S hM hR hk hw => ⟨S, hR, hw, ?_⟩⟩
    · rw [k90_32, hr.1, if_pos (nI_le (by omega) (by omega))]
    · rw [k142_28, zup_ne (by decide), hM.1, if_pos (nI_le (by omega) (by omega))]
  | succ k ih =>
    intro d n K hd hn h5 h3 hr
    have hd2 : d < l.length := by omega
    have hq := (hr.2 d hd2).1
    have ok := hok d hd2
    have hlet := (hr.2 d hd2).2
    generalize hqe : l.getD d d0 = q at hq ok hlet
    have hc54 := c54 (X := X) (I := K) (d := d) (q := q) hn ht h5 h3 (by omega) hq ok
    -- the reference, asked for the same mark
    have hM1 : ∀ (M : Nat → Nat → Int32) (S : Nat → Int32), mRows P M l → hR K 2 S → wK S t n → ∃ S1, zr X 142 28 [.ref 160, .int (nI d)] [] (zk (zup M 161 S)) = (if zb (tkC t n q (zan (pD (vC K 6) (vC K 146) d) 0 n)) = 0 then zr X 142 53 [.ref 160, .int (nI d)] [] (zk (zup M 161 S1)) else zr X 142 47 [.ref 160, .int (nI d)] [] (zk (zup M 161 S1))) ∧ zan (pD (vR S) (vC K 146) d) 0 n = zan (pD (vC K 6) (vC K 146) d) 0 n ∧ (tkC t n q (zan (pD (vC K 6) (vC K 146) d) 0 n) = true → n < 20 ∧ S1 = upd (rMake S n (fun w => M 172 (12 * d + w))) 66 (nI (n + 1))) ∧ (tkC t n q (zan (pD (vC K 6) (vC K 146) d) 0 n) = false → S1 = S ∨ n < 20 ∧ xEq n S S1) := by
      intro M S hM hR hk
      have hv : vEq (vC K 6) (vR S) n := fun i w hi hw => hR.2.1.2.1 i w (by rw [wK_n hk]; exact hi) hw
      have hown : zan (pD (vR S) (vC K 146) d) 0 n = zan (pD (vC K 6) (vC K 146) d) 0 n := by
        refine zan_map (fun i hi => ?_)
        unfold pD sD
        rw [hv i 0 hi (by decide), hv i 5 hi (by decide), hv i 1 hi (by decide), hv i 2 hi (by decide), hv i 3 hi (by decide)]
      have hMq := (hM.2 d hd2).1
      rw [hqe] at hMq
      obtain ⟨S1, s1, s2, s3⟩ := m141 (X := X) (I := M) (t := t) (n := n) (d := d) (S := S) (D := vC K 146) (q := q) hn ht hk.2.2.2.1 hk.2.2.1 (by omega) hMq hq ok
      rw [hown] at s1 s2 s3
      refine ⟨S1, ?_, hown, s2, s3⟩
      have ev : 12 * nI d = nI (12 * d) := by rw [zI_mul]; rfl
      rw [k142_28, zup_ne (by decide), hM.1, if_neg (nI_ge hd2 (by omega)), k142_36, ev, s1, zcb_some, zn_one, k142_44]
    rw [k90_32, hr.1, if_neg (nI_ge hd2 (by omega)), k90_46, hc54, zcb_some, zn_one, k90_61]
    generalize hown : zan (pD (vC K 6) (vC K 146) d) 0 n = own at hM1
    by_cases a : tkC t n q own = true
    · have a2 : n < 20 ∧ own = false ∧ (q.2.2.1 ≤ t ∧ q.2.2.2.1 ≤ t) ∧ (q.2.1 = 1 ∨ q.2.2.1 < q.2.2.2.1) := by
        unfold tkC at a
        simp only [Bool.and_eq_true, Bool.or_eq_true, Bool.not_eq_true', decide_eq_true_eq] at a
        exact ⟨a.2.2.1, a.2.2.2, a.1, a.2.1⟩
      obtain ⟨n20, ow, hg, hkd⟩ := a2
      obtain ⟨K1, j1, j2, j3, j4, j5⟩ := c8 (X := X) (I := K) (n := n) (d := d) n20 h5 (by omega)
      obtain ⟨K', m, y1, y2, y3, y4⟩ := ih (d + 1) (n + 1) K1 (by omega) (by omega) j2 (by rw [j3 3 (by decide)]; exact h3) (cRows_at hr (fun t t1 t2 => j3 t (by omega)))
      rw [a, if_neg (show ¬ zb true = 0 by decide), k90_64, j1, zcb_some, zn_nil, k90_82, ← nI_succ]
      refine ⟨K', m, y1, y2, fun t ht => (y3 t ht).trans (j3 t ht), fun M S hM hR hk hw => ?_⟩
      obtain ⟨S1, s1, s2, s3, -⟩ := hM1 M S hM hR hk
      obtain ⟨-, rfl⟩ := s3 a
      have hMq := hM.2 d hd2
      rw [hqe] at hMq
      obtain ⟨o1, o2, o3, o4, o5, o6, o7⟩ := ok
      have ep : zx (vC K 146 4 d) = q.2.2.2.2.1 := by
        rw [hq 4 (by decide)]
        exact zx_nI (by omega)
      have hnE : nEq n S (upd (rMake S n (fun w => M 172 (12 * d + w))) 66 (nI (n + 1))) (vC K 146) (K 152) d := by
        refine ⟨fun k k1 k2 k3 => by rw [upd_at, if_neg k2, rMake_o k3], by rw [upd_at, if_pos rfl], fun w hw => ?_, fun k hk2 => ?_⟩
        · rw [hq w hw, ← hMq.1 w hw, ← rMake_w (S := S) (n := n) (g := fun w => M 172 (12 * d + w)) (show w < 12 by omega)]
          unfold vR
          rw [upd_at, if_neg (by omega)]
        · rw [ep] at hk2
          rw [hlet k hk2 (by omega), ← hMq.2 k hk2 (by omega), Nat.add_assoc (12 * d) 6 k, ← rMake_w (S := S) (n := n) (g := fun w => M 172 (12 * d + w)) (show 6 + k < 12 by omega)]
          unfold vR
          rw [upd_at, if_neg (by omega)]
      have hwM : wM t (vC K 146) d := by
        refine ⟨q.1, q.2.1, q.2.2.1, q.2.2.2.1, q.2.2.2.2.1, 0, hq 0 (by decide), hq 1 (by decide), hq 2 (by decide), hq 3 (by decide), hq 4 (by decide), hq 5 (by decide), o1, o2, ?_, hg.2, o5, by decide, ⟨o6, fun z => ?_⟩, o7⟩
        · rcases hkd with z | z
          · exact Nat.le_of_eq (o6 z)
          · omega
        · rcases hkd with y | y
          · exact y
          · omega
      have hwk := nEq_wK hnE n20 hk hwM (hq 5 (by decide)) (by rw [s2, ow])
      have hres := nEq_hR (I := K) (J := K1) hnE n20 (wM_p hwM).1 hk hw (fun t t1 t2 => j3 t t1) j2 j4 j5 hR
      obtain ⟨S', x1, x2, x3⟩ := y4 M _ hM hres hwk (nEq_wS hnE n20 hwk hw)
      refine ⟨S', x1, x2, ?_⟩
      rw [s1, a, if_neg (show ¬ zb true = 0 by decide), k142_47, ← nI_succ, x3]
    · rw [Bool.not_eq_true] at a
      rw [a, if_pos zb_f]
      refine ⟨K, d, by omega, rfl, fun _ _ => rfl, fun M S hM hR hk hw => ?_⟩
      obtain ⟨S1, s1, -, -, s4⟩ := hM1 M S hM hR hk
      rw [a, if_pos zb_f] at s1
      refine ⟨S1, ?_, ?_, s1⟩
      · rcases s4 a with rfl | ⟨n20, hx⟩
        · exact hR
        · exact xEq_hR hx n20 hk hw hR
      · rcases s4 a with rfl | ⟨n20, hx⟩
        · exact hw
        · exact xEq_wS hx n20 hk hw
theorem p_mark {c : Nat} (hI : Inv c I) : Call X c I 90 [.ref 1, .null] 142 [.ref 160, .null] := by
  obtain ⟨t, n, hk, ht, hs, hv⟩ := inv_b hI
  obtain ⟨p, hp, hp1, hp2, hp3⟩ := hI.2.2.2
  obtain ⟨D, e1, e2, e3⟩ := c42 (X := X) (P := I 166) (K := I) hp hp1 hp3
  have hRd := rRd_ok (P := I 166) (p := p)
  have hD : ∀ t, 160 ≤ t → D t = I t := fun t ht => e2 t (by omega)
  -- the reference, behind any state of the class
  have hRef : ∀ Q : Nat → Nat → Int32, (∀ t, 160 ≤ t → Q t = I t) → ∃ M, zr X 180 0 [.ref 160] [] (zk (zs1 Q 160 0 0)) = some (some (.int (if (rRd (I 166) p).2.1 = true then -6 else nI (rRd (I 166) p).1)), zk M) ∧ (∀ t, t ≠ 172 → t ≠ 160 → M t = Q t) ∧ (∀ k, k ≠ 15 → k ≠ 16 → k ≠ 18 → k ≠ 0 → M 160 k = I 160 k) ∧ ((rRd (I 166) p).2.1 = true → mRows (I 166) M (rRd (I 166) p).2.2) := by
    intro Q hQ
    obtain ⟨M, m1, m2, m3, m4⟩ := m180 (X := X) (P := I 166) (p := p) (K := zs1 Q 160 0 0) hp ⟨by rw [th_160 (by decide), hQ 160 (by decide)]; exact hp2, fun k hk => by rw [zs1_ne (by decide), hQ 166 (by decide)]⟩
    exact ⟨M, m1, fun t t1 t2 => (m2 t t1 t2).trans (zs1_ne t2), fun k k1 k2 k3 k4 => by rw [m3 k k1 k2 k3, th_160 k4, hQ 160 (by decide)], m4⟩
  by_cases a : (rRd (I 166) p).2.1 = true
  · rw [if_pos a] at e1
    have hR0 := e3 a
    obtain ⟨ok1, ok2, -⟩ := hRd
    generalize hl : (rRd (I 166) p).2.2 = l at hR0 ok1 ok2
    have hl13 : l.length ≤ 13 := by omega
    have hok : ∀ r, r < l.length → okR (l.getD r d0) := fun r hr => ok1 _ (by
      rw [List.getD_eq_getElem?_getD, List.getElem?_eq_getElem hr]
      exact List.getElem_mem hr)
    have hiD : iH c D := iH_keep (Nat.le_refl c) (e2 _ (by decide)) (fun t t1 t2 => e2 t (by omega)) (congrFun (hD 160 (by decide)) 4) (hD _ (by decide)) hI.2.1
    obtain ⟨R, r1, r2, r3⟩ := c1x (X := X) hiD
    have rI : ∀ t, t ≠ 17 → t ≤ 19 ∨ 109 ≤ t → t < 144 ∨ 160 ≤ t → R t = I t := fun t t1 t2 t3 => (r2 t t1 t2).trans (e2 t (by omega))
    have hrR : hR R 2 (I 161) := hR_cells (fun t t1 t2 => rI t (by omega) (by omega) (by omega)) hI.1.1
    obtain ⟨Q, m, q1, q2, q3, q4⟩ := zMade (X := X) (c := c) (t := t) (P := I 166) (l := l) hl13 hok hk.1 l.length 0 n R (by omega) hk.2.1 (by rw [rI 5 (by decide) (by decide) (by decide)]; exact hs) (by rw [rI 3 (by decide) (by decide) (by decide)]; exact ht) (cRows_at hR0 (fun t t1 t2 => r2 t (by omega) (by omega)))
    rw [nI_0] at q2 q4
    have hQo : ∀ t, t ≠ 142 → t < 5 ∨ 12 < t → zs1 Q 142 1 0 t = R t := fun t t1 t2 => (zs1_ne t1).trans (q3 t t2)
    have hQI : ∀ t, 160 ≤ t → zs1 Q 142 1 0 t = I t := fun t ht => (hQo t (by omega) (by omega)).trans (rI t (by omega) (by omega) (by omega))
    obtain ⟨M, m1, m2, m3, m4⟩ := hRef (zs1 Q 142 1 0) hQI
    rw [if_pos a] at m1
    have m4 := m4 a
    rw [hl] at m4
    obtain ⟨Kr, k1, k2, k3, k4⟩ := m121y (X := X) hI.2.1 (I1 := M) (m3 4 (by decide) (by decide) (by decide) (by decide))
    have mI : ∀ t, 161 ≤ t → t ≠ 172 → M t = I t := fun t t1 t2 => (m2 t t2 (by omega)).trans (hQI t (by omega))
    have k161 : Kr 161 = I 161 := (k2 161 (by decide) (by decide)).trans (mI _ (by decide) (by decide))
    have hN161 : zs1 Kr 160 8 0 161 = I 161 := (zs1_ne (by decide)).trans k161
    have hNr : mRows (I 166) (zs1 Kr 160 8 0) l := mRows_at m4 (by rw [zs1_self, upd_at, if_neg (by decide), k3 18 (by decide)]) (by rw [zs1_ne (by decide), k2 172 (by decide) (by decide)])
    obtain ⟨S', x1, x2, x3⟩ := q4 (zs1 Kr 160 8 0) (I 161) hNr hrR hk hI.1.2
    rw [zup_id hN161.symm] at x3
    refine ⟨nI m, zs1 Q 142 1 0, zup (zs1 Kr 160 8 0) 161 S', ?_, ?_, ?_⟩
    · rw [k90_0, e1, zcb_some, zn_one, k90_11, if_pos rfl, k90_19, r1, zcb_some, zn_nil, k90_30, q2, k90_88, k35_0, zcb_some, zn_nil, k90_95]
    · rw [k142_0, m1, zcb_some, zn_one, k142_9, if_pos rfl, k142_17, k1, zcb_some, zn_nil, k142_21, x3, k142_53]
    · have hrC : rC I R := by
        intro u x hu hx h1 h2
        obtain ⟨a1, a2, a3, a4⟩ := r3 u x hu hx (by rw [e2 17 (by decide)]; exact h1) (by rw [e2 17 (by decide)]; exact h2)
        refine ⟨a1, a2, ?_, fun t t1 t2 t3 => (a4 t t1 t2 t3).trans (e2 t (by omega))⟩
        obtain ⟨g1, g2, g3, g4, g5, g6, g7, g8, g9⟩ := a3
        have hd : ∀ q, q < 15 → D (2 + q) = I (2 + q) := fun q hq => e2 _ (by omega)
        refine ⟨?_, fun k hk => ?_, ?_, fun q q1 q2 k hk => ?_, fun k hk => ?_, ?_, fun k hk => ?_, fun k hk => ?_, fun k hk => ?_⟩ <;> rw [← hd _ (by omega)]
        · exact g1
        · exact g2 k hk
        · exact g3
        · exact g4 q q1 q2 k hk
        · exact g5 k hk
        · exact g6
        · exact g7 k hk
        · exact g8 k hk
        · exact g9 k hk
      rw [mI 161 (by decide) (by decide)] at k4
      have hKlo : ∀ t, t < 160 → zup (zs1 Kr 160 8 0) 161 S' t = zs1 Q 142 1 0 t := fun t ht => by rw [zup_ne (by omega), zs1_ne (by omega), k2 t (by omega) (by omega), m2 t (by omega) (by omega)]
      have hKhi : ∀ t, 164 ≤ t → t < 167 → zup (zs1 Kr 160 8 0) 161 S' t = I t := fun t t1 t2 => by rw [zup_ne (by omega), zs1_ne (by omega), k2 t (by omega) (by omega), mI t (by omega) (by omega)]
      refine inv_chgp (J1 := zs1 Q 142 1 0) (R := R) (K := Kr) (M := M) (T := I 161) (J := zup (zs1 Kr 160 8 0) 161 S') hI hrC rI (fun t t1 t2 => hQo t (by omega) (by omega)) (m3 4 (by decide) (by decide) (by decide) (by decide)) (mI _ (by decide) (by decide)) k4 hI.1.1 hI.1.2 hKlo (hKhi _ (by decide) (by decide)) (hKhi _ (by decide) (by decide)) ?_ ?_ zup_self (hR_cells (fun t t1 t2 => zs1_ne (by omega)) x1) (wS_le x2 (Nat.le_succ c)) ⟨0, by decide, ?_, ?_, fun k hk => absurd hk (Nat.not_lt_zero _)⟩
      · rw [zup_ne (by decide), zs1_ne (by decide)]
      · rw [zup_ne (by decide), zs1_self, upd_at, if_neg (by decide)]
      · rw [hKlo _ (by decide), zs1_self, upd_at, if_pos rfl]
        rfl
      · rw [zup_ne (by decide), zs1_self, upd_at, if_pos rfl]
        rfl
  · rw [if_neg a] at e1
    obtain ⟨M, m1, m2, m3, -⟩ := hRef D hD
    rw [if_neg a] at m1
    have h6 : ¬ nI (rRd (I 166) p).1 = -6 := nI_n6 (by have := hRd.2.2; omega)
    refine ⟨-3, D, M, ?_, ?_, inv_q (I1 := D) hI (fun t ht => e2 t (by omega)) ⟨fun t ht => m2 t (by omega) (by omega), ?_, ?_, m2 _ (by decide) (by decide), m2 _ (by decide) (by decide), m2 _ (by decide) (by decide), m2 _ (by decide) (by decide), m2 _ (by decide) (by decide)⟩⟩
    · rw [k90_0, e1, zcb_some, zn_one, k90_11, if_neg h6, k90_16]
    · rw [k142_0, m1, zcb_some, zn_one, k142_9, if_neg h6, k142_14]
    · rw [m3 4 (by decide) (by decide) (by decide) (by decide), hD 160 (by decide)]
    · rw [m3 8 (by decide) (by decide) (by decide) (by decide), hD 160 (by decide)]
end K2
