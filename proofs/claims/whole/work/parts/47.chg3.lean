/-! refuse, accept, undo, save, restore -/
theorem vEq_pAcc {V V' : Nat → Nat → Int32} {n m i : Nat} (h : vEq V V' n) (hm : m < n) (hi : i < n) : pAcc V m i = pAcc V' m i := by
  unfold pAcc
  rw [vEq_sC h hm hi, h i 5 hi (by decide)]
theorem vEq_cells {I J : Nat → Nat → Int32} {V : Nat → Nat → Int32} {n : Nat} (hc : ∀ q, 6 ≤ q → q ≤ 11 → J q = I q) (h : vEq (vC I 6) V n) : vEq (vC J 6) V n := by
  intro i w hi hw
  rw [← h i w hi hw]
  have hw5 : w = 0 ∨ w = 1 ∨ w = 2 ∨ w = 3 ∨ w = 4 ∨ w = 5 := by omega
  rcases hw5 with rfl | rfl | rfl | rfl | rfl | rfl
  · exact congrFun (hc 6 (by decide) (by decide)) i
  · exact congrFun (hc 7 (by decide) (by decide)) i
  · exact congrFun (hc 8 (by decide) (by decide)) i
  · exact congrFun (hc 9 (by decide) (by decide)) i
  · exact congrFun (hc 11 (by decide) (by decide)) i
  · exact congrFun (hc 10 (by decide) (by decide)) i
section B3
variable {X : Nat × (Nat → Int32)} {I : Nat → Nat → Int32}
theorem p_refuse {c : Nat} (hI : Inv c I) (v : Int32) : Call X c I 93 [.ref 1, .int v] 148 [.ref 160, .int v] := by
  obtain ⟨t, n, hk, ht, hs, hv⟩ := inv_b hI
  have hn : n ≤ 20 := hk.2.1
  have hS : I 161 66 = nI n := hk.2.2.2.1
  have hS0 : zs1 I 160 0 0 161 66 = nI n := by rw [th_161]; exact hS
  have hend := inv_q hI cQ_rf (mQ_th (v := 0))
  rcases mk_cases (n := n) (by omega) v with hb | ⟨m, hm, rfl⟩
  · refine ⟨-1, I, zs1 I 160 0 0, ?_, ?_, hend⟩
    · rw [k93_0, c5n hn hs hb, zcb_some, zn_one, k93_11, if_neg (by decide), k93_14]
    · rw [k148_0, m119n hn hS0 hb, zcb_some, zn_one, k148_10, if_neg (by decide), k148_13]
  · have hm2 : m < 20 := by omega
    have hz := zin_nI hm2 (by decide)
    have ez : zx (nI m) = m := zx_nI (by omega)
    have e5 : I 10 m = vR (I 161) 5 m := hv m 5 hm (by decide)
    by_cases a : vR (I 161) 5 m = 0
    · have a2 : I 10 m = 0 := by rw [e5]; exact a
      obtain ⟨R, r1, r2, r3⟩ := c1x (X := X) hI.2.1
      have hJ : ∀ t, 160 ≤ t → zs1 R 10 m 2 t = I t := fun t ht => (zs1_ne (by omega)).trans (r2 t (by omega) (by omega))
      obtain ⟨K, k1, k2, k3, k4⟩ := m121y (X := X) hI.2.1 (I1 := zs1 (zs1 R 10 m 2) 160 0 0) (by rw [zs1_self, upd_at, if_neg (by decide), hJ _ (by decide)])
      have k161 : K 161 = I 161 := (k2 161 (by decide) (by decide)).trans ((zs1_ne (by decide)).trans (hJ _ (by decide)))
      have hh := rRef_how (S := I 161) hm hn
      have hwk := rRef_wK hk hm a
      have hnow : ∀ q, 3 ≤ q → q ≤ 16 → q ≠ 10 → zs1 R 10 m 2 q = I q := fun q q1 q2 q3 => (zs1_ne q3).trans (r2 q (by omega) (by omega))
      have h10 : ∀ i, i < n → zs1 R 10 m 2 10 i = vR (rRef m (I 161)) 5 i := by
        intro i hi
        rw [zs1_self, upd_at, rRef_5, r2 10 (by decide) (by decide)]
        by_cases e : i = m
        · rw [if_pos e, if_pos e]
        · rw [if_neg e, if_neg e]
          exact hv i 5 hi (by decide)
      have m118' := m118 (X := X) (I := K) (i := m) (w := 5) (v := 2) (by omega) (by decide)
      rw [show nI 5 = (5 : Int32) by decide] at m118'
      have hSJ : zs1 K 161 (67 + 12 * m + 5) 2 161 = rRef m (I 161) := by
        rw [zs1_self, k161]
        rfl
      refine ⟨sN (fun i => vR (rRef m (I 161)) 5 i == 0) n, zs1 R 10 m 2, zs1 K 161 (67 + 12 * m + 5) 2, ?_, ?_, inv_chg (S' := rRef m (I 161)) (K := K) hI r3 r2 (fun t t1 t2 => zs1_ne (by omega)) ?_ (fun t t1 t2 => (k2 t t1 t2).trans (zs1_ne t1)) ?_ (fun t t1 t2 => zs1_ne t1) ?_ ?_ hSJ (hR_how hh hk hI.1.2 hnow h10 hI.1.1) (wS_how hh hwk (wS_le hI.1.2 (Nat.le_succ c)))⟩
      · rw [k93_0, c5y hn hs hm, zcb_some, zn_one, k93_11, if_pos (by decide), k93_16 hz, ez, if_pos a2, k93_34, r1, zcb_some, zn_nil, k93_45 hz, ez, c25 hn (by rw [hnow 5 (by decide) (by decide) (by decide)]; exact hs), zcb_some, zn_one, k93_69, sN_at (fun i hi => by rw [show vC (zs1 R 10 m 2) 6 5 i = vR (rRef m (I 161)) 5 i from h10 i hi])]
      · rw [k148_0, m119y hn (by rw [zs1_ne (by decide), hJ _ (by decide)]; exact hS) hm, zcb_some, zn_one, k148_10, if_pos (by decide), k148_15, m117_5 (by omega), zcb_some, zn_one, k148_21, vM_th, if_pos (by rw [vM_vR, hJ _ (by decide)]; exact a), k148_27, k1, zcb_some, zn_nil, k148_31, m118', zcb_some, zn_nil, k148_38, m147 hn (by rw [hSJ, (rRef_how hm hn).1 66 (Or.inl (by decide))]; exact hS), zcb_some, zn_one, k148_43, vM_vR, hSJ]
      · rw [zs1_ne (t := 160) (by decide), hJ 161 (by decide)] at k4
        exact k4
      · rw [k3 8 (by decide), zs1_self, upd_at, if_neg (by decide)]
      · rw [zs1_ne (by decide)]
      · rw [zs1_ne (by decide)]
    · have a2 : ¬ I 10 m = 0 := by rw [e5]; exact a
      refine ⟨-5, I, zs1 I 160 0 0, ?_, ?_, hend⟩
      · rw [k93_0, c5y hn hs hm, zcb_some, zn_one, k93_11, if_pos (by decide), k93_16 hz, ez, if_neg a2, k93_31]
      · rw [k148_0, m119y hn hS0 hm, zcb_some, zn_one, k148_10, if_pos (by decide), k148_15, m117_5 (by omega), zcb_some, zn_one, k148_21, vM_th, if_neg (show ¬ vM I 5 m = 0 from a), k148_24]
/-- accept -/
theorem p_accept {c : Nat} (hI : Inv c I) (v : Int32) : Call X c I 92 [.ref 1, .int v] 146 [.ref 160, .int v] := by
  obtain ⟨t, n, hk, ht, hs, hv⟩ := inv_b hI
  have hn : n ≤ 20 := hk.2.1
  have hS : I 161 66 = nI n := hk.2.2.2.1
  have hT : I 161 0 = nI t := hk.2.2.1
  have hS0 : zs1 I 160 0 0 161 66 = nI n := by rw [th_161]; exact hS
  have hend := inv_q hI cQ_rf (mQ_th (v := 0))
  rcases mk_cases (n := n) (by omega) v with hb | ⟨m, hm, rfl⟩
  · refine ⟨-1, I, zs1 I 160 0 0, ?_, ?_, hend⟩
    · rw [k92_0, c5n hn hs hb, zcb_some, zn_one, k92_11, if_neg (by decide), k92_14]
    · rw [k146_0, m119n hn hS0 hb, zcb_some, zn_one, k146_10, if_neg (by decide), k146_13]
  · have hm2 : m < 20 := by omega
    have ecan : sCan (vC I 6) n (I 3 1) m = sCan (vR (I 161)) n (I 161 0) m := by rw [vEq_sCan hv hm, ht, hT]
    by_cases a : sCan (vR (I 161)) n (I 161 0) m = true
    · obtain ⟨R, r1, r2, r3⟩ := c1x (X := X) hI.2.1
      have hRn : ∀ q, q ≤ 16 → R q = I q := fun q q1 => r2 q (by omega) (by omega)
      have hvR : vEq (vC R 6) (vR (I 161)) n := vEq_cells (fun q q1 q2 => hRn q (by omega)) hv
      have a0 : vR (I 161) 5 m = 0 := by
        unfold sCan at a
        simp only [Bool.and_eq_true, decide_eq_true_eq] at a
        exact a.1
      have a2 : R 10 m = 0 := by
        rw [hRn 10 (by decide)]
        exact (hv m 5 hm (by decide)).trans a0
      obtain ⟨f, c1, c2⟩ := c19 (X := X) (I := R) hn (by rw [hRn 5 (by decide)]; exact hs) hm a2
      have hJ : ∀ t, 160 ≤ t → zup R 10 f t = I t := fun t ht => (zup_ne (by omega)).trans (r2 t (by omega) (by omega))
      obtain ⟨K, k1, k2, k3, k4⟩ := m121y (X := X) hI.2.1 (I1 := zs1 (zup R 10 f) 160 0 0) (by rw [zs1_self, upd_at, if_neg (by decide), hJ _ (by decide)])
      have k161 : K 161 = I 161 := (k2 161 (by decide) (by decide)).trans ((zs1_ne (by decide)).trans (hJ _ (by decide)))
      have hh := rAcc_how (S := I 161) hm hn
      have hwk := rAcc_wK hk hm a
      have hnow : ∀ q, 3 ≤ q → q ≤ 16 → q ≠ 10 → zup R 10 f q = I q := fun q q1 q2 q3 => (zup_ne q3).trans (hRn q q2)
      have h10 : ∀ i, i < n → zup R 10 f 10 i = vR (rAcc n m (I 161)) 5 i := by
        intro i hi
        rw [zup_self, c2 i hi, rAcc_5 hi, vEq_pAcc hvR hm hi, hRn 10 (by decide), show I 10 i = vR (I 161) 5 i from hv i 5 hi (by decide)]
      refine ⟨sN (pAcc (vR (I 161)) m) n, zup R 10 f, zup K 161 (rAcc n m (I 161)), ?_, ?_, inv_chg (S' := rAcc n m (I 161)) (K := K) hI r3 r2 (fun t t1 t2 => zup_ne (by omega)) ?_ (fun t t1 t2 => (k2 t t1 t2).trans (zs1_ne t1)) ?_ (fun t t1 t2 => zup_ne t1) ?_ ?_ zup_self (hR_how hh hk hI.1.2 hnow h10 hI.1.1) (wS_how hh hwk (wS_le hI.1.2 (Nat.le_succ c)))⟩
      · rw [k92_0, c5y hn hs hm, zcb_some, zn_one, k92_11, if_pos (by decide), k92_16, c57 hn hs hm2, zcb_some, zn_one, k92_24, ecan, a, if_pos (by decide), k92_30, r1, zcb_some, zn_nil, k92_41, c1, zcb_some, zn_one, k92_52, sN_at (fun i hi => vEq_pAcc hvR hm hi)]
      · rw [k146_0, m119y hn (by rw [zs1_ne (by decide), hJ _ (by decide)]; exact hS) hm, zcb_some, zn_one, k146_10, if_pos (by decide), k146_15, m144 hn (by rw [zs1_ne (by decide), hJ _ (by decide)]; exact hS) (by omega), zcb_some, zn_one, k146_20, vM_th, vM_vR, th_161, hJ 161 (by decide), a, if_pos (by decide), k146_26, k1, zcb_some, zn_nil, k146_30, m145 hn (by rw [k161]; exact hS) (by omega), zcb_some, zn_one, k146_35, vM_vR, k161]
      · rw [zs1_ne (t := 160) (by decide), hJ 161 (by decide)] at k4
        exact k4
      · rw [k3 8 (by decide), zs1_self, upd_at, if_neg (by decide)]
      · rw [zup_ne (by decide)]
      · rw [zup_ne (by decide)]
    · rw [Bool.not_eq_true] at a
      refine ⟨-5, I, zs1 I 160 0 0, ?_, ?_, hend⟩
      · rw [k92_0, c5y hn hs hm, zcb_some, zn_one, k92_11, if_pos (by decide), k92_16, c57 hn hs hm2, zcb_some, zn_one, k92_24, ecan, a, if_neg (by decide), k92_27]
      · rw [k146_0, m119y hn hS0 hm, zcb_some, zn_one, k146_10, if_pos (by decide), k146_15, m144 hn hS0 (by omega), zcb_some, zn_one, k146_20, vM_th, th_161, vM_vR, a, if_neg (by decide), k146_23]
end B3
