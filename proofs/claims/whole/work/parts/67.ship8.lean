/-! ship -/
section S8
variable {X : Nat × (Nat → Int32)} {I : Nat → Nat → Int32}
theorem p_ship {c : Nat} (hI : Inv c I) (h600 : c ≤ 600) : Call X c I 96 [.ref 1] 156 [.ref 160, .null] := by
  obtain ⟨t, n, hk, ht, hs, hv⟩ := inv_b hI
  have hn : n ≤ 20 := hk.2.1
  have ht60 : t ≤ 60 := hk.1
  have hS : I 161 66 = nI n := hk.2.2.2.1
  have hT : I 161 0 = nI t := hk.2.2.1
  obtain ⟨v, hv1, hv2, hv3, hv4⟩ := hI.1.2.2.2
  have hwk := hk.2.2.2.2.1
  have hu : okU t n (vR (I 161)) (fun i => zb (decide (vR (I 161) 5 i = 1))) := okU_pr ht60 hwk
  -- the print
  have hlen := sPr_cg (T := fun g => I 161 (1 + g)) (Lt := sLt I) hu (fun i hi => sLt_len)
  have hnum := sPr_num (T := fun g => I 161 (1 + g)) (Lt := sLt I) hu (fun i hi => sLt_len)
  have h180 := sPr_180 (T := fun g => I 161 (1 + g)) (V := vR (I 161)) (Lt := sLt I) (U := fun i => zb (decide (vR (I 161) 5 i = 1))) ht60 hn hwk.1 (fun i hi => sLt_len)
  generalize hl : sPr (fun g => I 161 (1 + g)) (vR (I 161)) (sLt I) (fun i => zb (decide (vR (I 161) 5 i = 1))) n t = l at hlen hnum h180
  have hl60 : l.length ≤ 60 := by
    have h1 := hk.2.2.2.2.2
    rw [hT, hnum, show (60 : Int32) = nI 60 from rfl, nI_lt_iff (by decide) (by omega)] at h1
    omega
  -- the class
  obtain ⟨R, r1, r2, r3⟩ := c1x (X := X) hI.2.1
  have hRn : ∀ q, q ≤ 16 → R q = I q := fun q q1 => r2 q (by omega) (by omega)
  have hvR : vEq (vC R 6) (vR (I 161)) n := vEq_cells (fun q q1 q2 => hRn q (by omega)) hv
  have hokc : okU t n (vC R 6) (fun i => zb (decide (vC R 6 5 i = 1))) := okU_pr ht60 (wMs_at (fun i w hi hw => (hvR i w hi hw).symm) hwk)
  obtain ⟨A, a1, a2, a3, a4⟩ := c81 (X := X) (I := R) hn (by rw [hRn 5 (by decide)]; exact hs) (by rw [hRn 3 (by decide)]; exact ht) hokc
  have hLR : ∀ i, i < n → Lc R i = sLt I i := by
    intro i hi
    have e11 := hRn 11 (by decide)
    have e12 := hRn 12 (by decide)
    have e : Lc R i = Lc I i := by
      show (List.range (zx (R 11 i))).map (fun k => R 12 (6 * i + k)) = (List.range (zx (I 11 i))).map (fun k => I 12 (6 * i + k))
      rw [e11, e12]
    rw [e]
    exact hK_L hI.1.1.2.1 (wK_n hk) hv rfl hi
  have hpr : sPr (R 4) (vC R 6) (Lc R) (fun i => zb (decide (vC R 6 5 i = 1))) n t = l := by
    rw [← hl]
    refine sPr_at (fun g hg => ?_) hvR hLR (fun i hi => by rw [hvR i 5 hi (by decide)])
    rw [hRn 4 (by decide)]
    exact hI.1.1.1.2 g (by rw [wK_t hk]; exact hg)
  rw [hpr] at a3 a4
  have hAR : ∀ q, q < 153 ∨ 157 < q → A q = R q := a2
  have hAn : ∀ q, q ≤ 16 → A q = I q := fun q hq => (hAR q (Or.inl (by omega))).trans (hRn q hq)
  have htw : ∀ i j, i < n → j < n → twin (vR (gS (I 161) n n)) i j = twin (vS (vR (I 161)) n) i j := by
    intro i j hi hj
    unfold twin
    rw [gS_at (by decide), gS_at (by decide), gS_at (by decide), gS_at (by decide), gS_at (by decide), gS_at (by decide), if_pos hi, if_pos hj, if_pos hj, if_pos hi, if_pos hj, if_pos hi]
  obtain ⟨Q, q1, q2, q3, q4, q5, q6, q7, q8, q9, q10, q11⟩ := c60 (X := X) (I := A) (t := t) (V := vR (I 161)) (tw := twin (vR (gS (I 161) n n))) (v := v) (l := l.length) hn (by rw [hAn 5 (by decide)]; exact hs) hu (vEq_cells (fun q q1 q2 => hAn q (by omega)) hv) htw (by omega) (by rw [hAn 13 (by decide)]; exact hI.1.1.2.2.2.1.trans hv2) hl60 a3
  have hQ : ∀ t, 17 ≤ t → t < 144 ∨ 160 ≤ t → Q t = R t := fun t t1 t2 => (q11 t (by omega)).trans (hAR t (by omega))
  have hQI : ∀ t, 109 ≤ t → t < 144 ∨ 160 ≤ t → Q t = I t := fun t t1 t2 => (hQ t (by omega) t2).trans (r2 t (by omega) (by omega))
  -- the reference
  obtain ⟨K, k1, k2, k3, k4⟩ := m121y (X := X) hI.2.1 (I1 := zs1 Q 160 0 0) (by rw [th_160 (by decide), hQI _ (by decide) (by decide)])
  have k161 : K 161 = I 161 := (k2 161 (by decide) (by decide)).trans ((zs1_ne (by decide)).trans (hQI _ (by decide) (by decide)))
  have vMK : vM K = vR (I 161) := by rw [vM_vR, k161]
  have sLK : sLt K = sLt I := by
    funext i
    unfold sLt
    rw [vMK]
    rfl
  have m133' := m133 (X := X) (I := K) (n := n) (t := t) hn ht60 (by rw [k161]; exact hS) (by rw [k161]; exact hT) (by rw [vMK]; exact fun i hi => wM_p (hwk.1 i hi)) (by rw [vMK, sLK, k161, hl]; exact h180)
  rw [vMK, sLK, k161, hl] at m133'
  have hM : ∀ t, t ≠ 160 → t ≠ 168 → t ≠ 167 → zlw (zfw K 167 0 (fun i => zb (decide (vR (I 161) 5 i = 1))) n) l t = K t := fun t t1 t2 t3 => (zlw_ne t1 t2).trans (zfw_ne t3)
  have hM160 : ∀ k, k ≠ 11 → zlw (zfw K 167 0 (fun i => zb (decide (vR (I 161) 5 i = 1))) n) l 160 k = K 160 k := fun k hk => by rw [zlw_160 hk, zfw_ne (by decide)]
  have hM11 : zlw (zfw K 167 0 (fun i => zb (decide (vR (I 161) 5 i = 1))) n) l 160 11 = nI l.length := zlw_len
  have hM168 : ∀ k, k < l.length → zlw (zfw K 167 0 (fun i => zb (decide (vR (I 161) 5 i = 1))) n) l 168 k = l.getD k 0 := fun k hk => zlw_out hk
  have hM167 : ∀ i, i < n → zlw (zfw K 167 0 (fun i => zb (decide (vR (I 161) 5 i = 1))) n) l 167 i = zb (decide (vR (I 161) 5 i = 1)) := fun i hi => by rw [zlw_ne (by decide) (by decide), zfw_le hi]
  generalize zlw (zfw K 167 0 (fun i => zb (decide (vR (I 161) 5 i = 1))) n) l = M at hM hM160 hM11 hM168 hM167 m133'
  obtain ⟨S', G, g0, g1, g2, g3, g4, g5, g6, g7, g8, g9, g10⟩ := m156 (X := X) (I := M) (t := t) (v := v) (l := l.length) hn ((hM 161 (by decide) (by decide) (by decide)).trans k161) hS hu hM167 (by omega) hv2 hv3 hl60 hM11
  have hkl := kL_len (st := stay (vR (I 161)) n) (tw := twin (vR (gS (I 161) n n))) n
  have hf : ∀ r, r < (kL (stay (vR (I 161)) n) (twin (vR (gS (I 161) n n))) n).length → (kL (stay (vR (I 161)) n) (twin (vR (gS (I 161) n n))) n).getD r 0 < n ∧ kp (stay (vR (I 161)) n) (twin (vR (gS (I 161) n n))) ((kL (stay (vR (I 161)) n) (twin (vR (gS (I 161) n n))) n).getD r 0) = true := fun r hr => kL_lt hr
  have hfj : ∀ r q, r < (kL (stay (vR (I 161)) n) (twin (vR (gS (I 161) n n))) n).length → q < (kL (stay (vR (I 161)) n) (twin (vR (gS (I 161) n n))) n).length → r ≠ q → (kL (stay (vR (I 161)) n) (twin (vR (gS (I 161) n n))) n).getD r 0 ≠ (kL (stay (vR (I 161)) n) (twin (vR (gS (I 161) n n))) n).getD q 0 := fun r q hr hq h => kL_inj hr hq h
  generalize kL (stay (vR (I 161)) n) (twin (vR (gS (I 161) n n))) n = L at g4 g5 q8 q9 q10 hkl hf hfj
  have g5' : ∀ r w, w < 12 → r < L.length → vR S' w r = vS (vR (I 161)) n w (L.getD r 0) := fun r w hw hr => by rw [g5 r w hw hr, gS_at hw, if_pos (hf r hr).1]
  have zl : zx (nI l.length) = l.length := zx_nI (by omega)
  have zL : zx (nI L.length) = L.length := zx_nI (by omega)
  refine ⟨nI v, Q, zM2 M S' G, ?_, ?_, inv_chg (S' := S') (K := K) hI r3 r2 hQ ?_ (fun t t1 t2 => (k2 t t1 t2).trans (zs1_ne t1)) ?_ (fun t t1 t2 => (zM2_o t1 (by omega)).trans (hM t (by omega) (by omega) (by omega))) ?_ ?_ zM2_a ⟨⟨q2.trans g1.symm, fun k hk2 => ?_⟩, ⟨q8.trans g4.symm, fun i w hi hw => ?_, fun i k hi hk2 => ?_⟩, fun k hk2 => ?_, q4.trans g6.symm, fun j hj => ?_⟩ ⟨⟨l.length, L.length, hl60, by omega, g1, g4, wMs_ship (n := n) (V := vR (I 161)) hn ht60 hwk (Nat.le_of_eq hlen.symm) hl60 htw (fun r => L.getD r 0) hf hfj (fun r w hr hw => g5' r w (by omega) hr), ?_⟩, fun k hk2 => ?_, v + 1, by omega, g6, g7, fun j hj => ?_⟩⟩
  · rw [k96_0, r1, zcb_some, zn_nil, k96_11, a1, zcb_some, zn_nil, k96_22, q1, zcb_some, zn_nil, k96_33, q4, show nI (v + 1) - 1 = nI v from zI_sub (a := v + 1) (b := 1) (by omega)]
  · rw [k156_0, k1, zcb_some, zn_nil, k156_9, m133', zcb_some, zn_nil, g0]
  · rw [zs1_ne (t := 160) (by decide), hQI 161 (by decide) (by decide)] at k4
    exact k4
  · rw [k3 8 (by decide), th_160 (by decide)]
  · rw [zM2_o (by decide) (by decide), hM160 4 (by decide)]
  · rw [zM2_o (by decide) (by decide), hM160 8 (by decide)]
  · rw [g1, zl] at hk2
    show Q 4 k = _
    rw [q3 k hk2, a4 k hk2, g2 k hk2, hM168 k hk2]
  · rw [g4, zL] at hi
    show vC Q 6 w i = _
    rw [q9 i w hw hi, g5' i w (by omega) hi]
  · rw [g4, zL] at hi
    obtain ⟨f1, f2⟩ := hf i hi
    have e4 : vR S' 4 i = vR (I 161) 4 (L.getD i 0) := by rw [g5' i 4 (by decide) hi, vS_w (by decide) (by decide)]
    rw [e4] at hk2
    have hp := (wM_p (hwk.1 _ f1)).1
    rw [g5' i (6 + k) (by omega) hi, vS_w (by omega) (by omega)]
    show Q 12 (6 * i + k) = _
    rw [q10 i k (by omega) hi, hAn 12 (by decide)]
    exact hI.1.1.2.1.2.2 _ k (by rw [wK_n hk]; exact f1) hk2
  · show Q 16 k = _
    rw [q11 16 (by decide), hAn 16 (by decide), g3 (61 + k) (by omega) (by omega)]
    exact hI.1.1.2.2.1 k hk2
  · rw [g7, zx_nI (by omega)] at hj
    rw [g6, zx_nI (by omega)]
    show Q 15 _ = _ ∧ ∀ k, _ → Q 14 _ = _
    cases j with
    | zero =>
      rw [show v + 1 - 1 - 0 = v by omega, q5, if_pos rfl, show 309 + 61 * 0 = 309 by omega, g8]
      refine ⟨rfl, fun k hk2 => ?_⟩
      rw [zl] at hk2
      rw [q6 k hk2, a4 k hk2, show 310 + 61 * 0 + k = 310 + k by omega, g9 k hk2, hM168 k hk2]
    | succ j =>
      have hj2 : j < min v 6 := by omega
      obtain ⟨x1, x2⟩ := hI.1.1.2.2.2.2 j (by rw [hv3, zx_nI (by omega)]; exact hj2)
      obtain ⟨l2, y1, y2⟩ := hv4 j hj2
      rw [hv2, zx_nI (by omega)] at x1 x2
      have em : (v + 1 - 1 - (j + 1)) % 6 = (v - 1 - j) % 6 := by congr 1; omega
      have hne : (v - 1 - j) % 6 ≠ v % 6 := by omega
      have hm : (v - 1 - j) % 6 < 6 := Nat.mod_lt _ (by decide)
      have hm2 : v % 6 < 6 := Nat.mod_lt _ (by decide)
      rw [em, q5, if_neg hne, hAn 15 (by decide), g10 (309 + 61 * (j + 1)) (by omega) (by omega), show 309 + 61 * (j + 1) - 61 = 309 + 61 * j by omega]
      refine ⟨x1, fun k hk2 => ?_⟩
      have hk3 : k < l2 := by
        rw [y2, zx_nI (by omega)] at hk2
        exact hk2
      rw [q7 _ (by omega), hAn 14 (by decide), g10 _ (by omega) (by omega), show 310 + 61 * (j + 1) + k - 61 = 310 + 61 * j + k by omega]
      exact x2 k hk2
  · rw [sGs_none L.length (fun i hi z => ?_), g1, show (60 : Int32) = nI 60 from rfl, nI_lt_iff (by decide) (by omega)]
    · omega
    · rw [g5' i 5 (by decide) hi, vS_w (by decide) (by decide), stay_0 (kp_stay (hf i hi).2)] at z
      exact absurd z (by decide)
  · obtain ⟨r, e1, e2⟩ := hI.1.2.2.1 k hk2
    exact ⟨r, e1, by rw [g3 (61 + k) (by omega) (by omega)]; exact e2⟩
  · cases j with
    | zero => exact ⟨l.length, hl60, g8⟩
    | succ j =>
      obtain ⟨l2, y1, y2⟩ := hv4 j (by omega)
      exact ⟨l2, y1, by rw [g10 (309 + 61 * (j + 1)) (by omega) (by omega), show 309 + 61 * (j + 1) - 61 = 309 + 61 * j by omega]; exact y2⟩
end S8
