/-! seen, editor -/
section V5
variable {X : Nat × (Nat → Int32)} {I : Nat → Nat → Int32}
/-- what an editor sees, of both -/
theorem zSee {c t n : Nat} {e : Int32} (hI : Inv c I) (hk : wK (I 161) t n) (ht : I 3 1 = nI t) (hs : I 5 7 = nI n) (hv : vEq (vC I 6) (vR (I 161)) n) : ∃ (J K : Nat → Nat → Int32) (l : List Int32), l.length ≤ 180 ∧ zr X 82 0 [.ref 153, .int e, .ref 2, .null, .null] [] (zk I) = some (none, zk J) ∧ J 153 4 = nI l.length ∧ (∀ k, k < l.length → J 157 k = l.getD k 0) ∧ (∀ t, 160 ≤ t → J t = I t) ∧ zr X 135 0 [.ref 160, .int e, .null] [] (zk (zs1 J 160 0 0)) = some (none, zk K) ∧ K 160 11 = nI l.length ∧ (∀ k, k < l.length → K 168 k = l.getD k 0) ∧ Inv (c + 1) K := by
  have hn : n ≤ 20 := hk.2.1
  have ht60 : t ≤ 60 := hk.1
  have hS : I 161 66 = nI n := hk.2.2.2.1
  have hT : I 161 0 = nI t := hk.2.2.1
  have hokc : okU t n (vC I 6) (fun i => zb (uSh (vC I 6) n e i)) := okU_sh ht60 hn (wMs_at (fun i w hi hw => (hv i w hi hw).symm) hk.2.2.2.2.1)
  obtain ⟨J, j1, j2, j3, j4⟩ := c82 (X := X) hn hs ht hokc
  have hpr := zPrn hI hk ht hv (U := fun i => zb (uSh (vC I 6) n e i)) (U' := fun i => zb (uSh (vM I) n e i)) (fun i hi => by
    show zb (uSh (vC I 6) n e i) = zb (uSh (vM I) n e i)
    rw [vEq_uSh hv hi]
    rfl)
  rw [hpr] at j3 j4
  have hwi : ∀ i, i < n → wM t (vM I) i := hk.2.2.2.2.1.1
  have hlen := sPr_180 (T := fun g => I 161 (1 + g)) (V := vM I) (Lt := sLt I) (U := fun i => zb (uSh (vM I) n e i)) ht60 hn hwi (fun i hi => sLt_len)
  have hJ : ∀ t, 160 ≤ t → J t = I t := fun t ht => j2 t (by omega)
  have hJM : ∀ q, 161 ≤ q → zs1 J 160 0 0 q = I q := fun q hq => (zs1_ne (by omega)).trans (hJ q (by omega))
  have hvJ : vM (zs1 J 160 0 0) = vM I := by
    rw [vM_th]
    funext w i
    unfold vM
    rw [hJ _ (by decide)]
  have hLJ : sLt (zs1 J 160 0 0) = sLt I := by
    funext i
    unfold sLt
    rw [hvJ]
  have m135' := m135 (X := X) (I := zs1 J 160 0 0) (n := n) (t := t) (v := e) hn ht60 (by rw [hJM _ (by decide)]; exact hS) (by rw [hJM _ (by decide)]; exact hT) (by rw [hvJ]; exact fun i hi => wM_p (hwi i hi)) (by rw [hvJ, hLJ, hJM _ (by decide)]; exact hlen)
  rw [hvJ, hLJ, hJM 161 (by decide)] at m135'
  exact ⟨J, _, _, hlen, j1, j3, j4, hJ, m135', zlw_len, fun k hk => zlw_out hk, inv_q (I1 := J) hI (fun t ht => j2 t (by omega)) (mQ_tr mQ_th zlw_mQ)⟩
theorem p_seen {c : Nat} (hI : Inv c I) (v w : Int32) : Call X c I 98 [.ref 1, .int v, .int w] 158 [.ref 160, .int v, .int w] := by
  obtain ⟨t, n, hk, ht, hs, hv⟩ := inv_b hI
  have hend := inv_q hI cQ_rf (mQ_th (v := 0))
  rcases mk_cases (n := 5) (by omega) v with hb | ⟨e, he, rfl⟩
  · refine ⟨-1, I, zs1 I 160 0 0, ?_, ?_, hend⟩
    · rw [k98_0, c113n hb, zcb_some, zn_one, k98_4, if_neg (by decide), k98_7]
    · rw [k158_0, m120n hb, zcb_some, zn_one, k158_9, if_neg (by decide), k158_12]
  · obtain ⟨J, K, l, hl, j1, j2, j3, j4, k1, k2, k3, k4⟩ := zSee (X := X) (e := nI e) hI hk ht hs hv
    have hc : ∀ r, zr X 80 0 [.ref 153, .int w] [] (zk J) = some (some (.int r), zk J) → zr X 98 0 [.ref 1, .int (nI e), .int w] [] (zk I) = some (some (.int r), zk J) := by
      intro r h
      rw [k98_0, c113y he, zcb_some, zn_one, k98_4, if_pos (by decide), k98_9, j1, zcb_some, zn_nil, k98_21, h, zcb_some, zn_one, k98_29]
    have hm : ∀ r, zr X 158 19 [.ref 160, .int (nI e), .int w] [] (zk K) = r → zr X 158 0 [.ref 160, .int (nI e), .int w] [] (zk J) = r := by
      intro r h
      rw [k158_0, m120y he, zcb_some, zn_one, k158_9, if_pos (by decide), k158_14, k1, zcb_some, zn_nil, h]
    rcases mk_cases2 l.length (by omega) w with hb | ⟨k, hk2, rfl⟩
    · exact ⟨-1, J, K, hc _ (c80n hl j2 hb), hm _ (by rw [k158_19, k2, m116b hl hb, zcb_some, zn_one, k158_30, if_pos rfl, k158_42]), k4⟩
    · refine ⟨l.getD k 0, J, K, hc _ ?_, hm _ ?_, k4⟩
      · rw [c80y hl j2 hk2, j3 k hk2]
      · rw [k158_19, k2, m116g hl hk2, zcb_some, zn_one, k158_30, if_neg (by decide), k158_33 (zin_nI (by omega) (by decide)), zx_nI (by omega), k3 k hk2]
theorem p_editor {c : Nat} (hI : Inv c I) (v w : Int32) : Call X c I 101 [.ref 1, .int v, .int w] 163 [.ref 160, .int v, .int w] := by
  obtain ⟨t, n, hk, ht, hs, hv⟩ := inv_b hI
  have hn : n ≤ 20 := hk.2.1
  have hS : I 161 66 = nI n := hk.2.2.2.1
  have hS0 : zs1 I 160 0 0 161 66 = nI n := by rw [th_161]; exact hS
  have hend := inv_q hI cQ_rf (mQ_th (v := 0))
  rcases mk_cases (n := 5) (by omega) v with hb | ⟨e, he, rfl⟩
  · refine ⟨-1, I, zs1 I 160 0 0, ?_, ?_, hend⟩
    · rw [k101_0, c113n hb, zcb_some, zn_one, k101_4, if_neg (by decide), k101_7]
    · rw [k163_0, m120n hb, zcb_some, zn_one, k163_9, if_neg (by decide), k163_12]
  · have hc : ∀ r J, zr X 101 9 [.ref 1, .int (nI e), .int w] [] (zk I) = some (some (.int r), zk J) → zr X 101 0 [.ref 1, .int (nI e), .int w] [] (zk I) = some (some (.int r), zk J) := by
      intro r J h
      rw [k101_0, c113y he, zcb_some, zn_one, k101_4, if_pos (by decide), h]
    rcases sw_cases 6 (by decide) w with hb | ⟨j, hj, hw⟩
    · have h3 := sw_out (by decide) hb
      refine ⟨-2, I, zs1 I 160 0 0, hc _ _ ?_, ?_, hend⟩
      · rw [k101_9_d hb, k101_131]
      · rw [k163_0, m120y he, zcb_some, zn_one, k163_9, if_pos (by decide), k163_14, show (6 : Int32) = nI 6 from rfl, m116n (by decide) h3, zcb_some, zn_one, k163_21, if_neg (by decide), k163_24]
    · have hm : ∀ (J : Nat → Nat → Int32) r, zr X 163 27 [.ref 160, .int (nI e), .int w] [] (zk (zs1 J 160 0 0)) = r → zr X 163 0 [.ref 160, .int (nI e), .int w] [] (zk J) = r := by
        intro J r h
        rw [k163_0, m120y he, zcb_some, zn_one, k163_9, if_pos (by decide), k163_14, hw, show (6 : Int32) = nI 6 from rfl, m116y hj (by decide), zcb_some, zn_one, k163_21, if_pos (by decide), ← hw, h]
      have hm2 : ∀ r, ¬ w = 6 → ¬ w = 0 → zr X 162 0 [.ref 160, .int (nI e), .int w, .null, .null, .null] [] (zk (zs1 I 160 0 0)) = some (some (.int r), zk (zs1 I 160 0 0)) → zr X 163 0 [.ref 160, .int (nI e), .int w] [] (zk I) = some (some (.int r), zk (zs1 I 160 0 0)) := by
        intro r h6 h0 h
        refine hm I _ ?_
        rw [k163_27, if_pos h6, k163_43, if_pos h0, k163_59, h, zcb_some, zn_one, k163_65]
      have hj8 : j = 0 ∨ j = 1 ∨ j = 2 ∨ j = 3 ∨ j = 4 ∨ j = 5 ∨ j = 6 := by omega
      rcases hj8 with rfl | rfl | rfl | rfl | rfl | rfl | rfl
      · have e61 : (61 : Int32) + nI e = nI (61 + e) := by rw [zI_add]; rfl
        refine ⟨I 161 (61 + e), I, zs1 I 160 0 0, hc _ _ ?_, hm I _ ?_, hend⟩
        · rw [k101_9_c0 hw, k101_52 (zin_nI he (by decide)), zx_nI (by omega), show I 16 e = I 161 (61 + e) from hI.1.1.2.2.1 e he]
        · rw [k163_27, if_pos (by rw [hw]; decide), k163_43, if_neg (fun z => z hw), k163_47 (by rw [e61]; exact zin_nI (by omega) (by decide)), e61, zx_nI (by omega), th_161]
      · refine ⟨sN (fun i => vM I 0 i == nI e) n, I, zs1 I 160 0 0, hc _ _ ?_, hm2 _ (by rw [hw]; decide) (by rw [hw]; decide) ?_, hend⟩
        · rw [k101_9_c1 hw, k101_62, c26 hn hs, zcb_some, zn_one, k101_73, sN_at (fun i hi => by rw [hv i 0 hi (by decide)])]
          rfl
        · rw [hw]
          have h := m162a (X := X) (I := zs1 I 160 0 0) (n := n) (e := nI e) hn hS0
          rw [vM_th] at h
          exact h
      · refine ⟨sN (fun i => vM I 0 i == nI e && vM I 5 i == 0) n, I, zs1 I 160 0 0, hc _ _ ?_, hm2 _ (by rw [hw]; decide) (by rw [hw]; decide) ?_, hend⟩
        · rw [k101_9_c2 hw, k101_74, c27 hn hs, zcb_some, zn_one, k101_86, sN_at (fun i hi => by rw [hv i 0 hi (by decide), hv i 5 hi (by decide)])]
          rfl
        · rw [m162h hn hS0 (by rw [hw]; decide) (by rw [hw]; decide), vM_th, hw]
          rfl
      · refine ⟨sN (fun i => vM I 0 i == nI e && vM I 5 i == 1) n, I, zs1 I 160 0 0, hc _ _ ?_, hm2 _ (by rw [hw]; decide) (by rw [hw]; decide) ?_, hend⟩
        · rw [k101_9_c3 hw, k101_87, c27 hn hs, zcb_some, zn_one, k101_99, sN_at (fun i hi => by rw [hv i 0 hi (by decide), hv i 5 hi (by decide)])]
          rfl
        · rw [m162h hn hS0 (by rw [hw]; decide) (by rw [hw]; decide), vM_th, hw]
          rfl
      · refine ⟨sN (fun i => vM I 0 i == nI e && vM I 5 i == 2) n, I, zs1 I 160 0 0, hc _ _ ?_, hm2 _ (by rw [hw]; decide) (by rw [hw]; decide) ?_, hend⟩
        · rw [k101_9_c4 hw, k101_100, c27 hn hs, zcb_some, zn_one, k101_112, sN_at (fun i hi => by rw [hv i 0 hi (by decide), hv i 5 hi (by decide)])]
          rfl
        · rw [m162h hn hS0 (by rw [hw]; decide) (by rw [hw]; decide), vM_th, hw]
          rfl
      · refine ⟨sQi (vM I) n (nI e), I, zs1 I 160 0 0, hc _ _ ?_, hm2 _ (by rw [hw]; decide) (by rw [hw]; decide) ?_, hend⟩
        · rw [k101_9_c5 hw, k101_113, c23 hn hs, zcb_some, zn_one, k101_124, vEq_sQi hv]
          rfl
        · rw [hw]
          have h := m162q (X := X) (I := zs1 I 160 0 0) (n := n) (e := nI e) hn hS0
          rw [vM_th] at h
          exact h
      · obtain ⟨J, K, l, hl, j1, j2, j3, j4, k1, k2, k3, k4⟩ := zSee (X := X) (e := nI e) hI hk ht hs hv
        refine ⟨nI l.length, J, K, hc _ _ ?_, hm J _ ?_, k4⟩
        · rw [k101_9_c6 hw, k101_125, k114_0, j1, zcb_some, zn_nil, k114_12, j2, zcb_some, zn_one, k101_130]
        · rw [k163_27, if_neg (fun z => z hw), k163_33, k1, zcb_some, zn_nil, k163_38, k2]
end V5
