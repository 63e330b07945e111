/-! CALLS THAT ASK: count, what if accepted, wipe, versions -/
theorem rem6_all : ∀ x : Nat, x < 700 → (0 : Int32) ≤ nI x ^^^ 6 ∧ nI x - nI x / 6 * 6 = nI (x % 6) := by decide +kernel
theorem sGs_add {V : Nat → Nat → Int32} {a : Int32} : ∀ n, sGs V n a = a + sGs V n 0
  | 0 => (Int32.add_zero a).symm
  | n + 1 => by
    have h := sGs_add (V := V) (a := a) n
    unfold sGs at h ⊢
    rw [zfo_last, zfo_last, h]
    split
    · rw [Int32.add_assoc]
    · rfl
theorem sAny_Cnt {V : Nat → Nat → Int32} {n m : Nat} {w : Int32} (hn : n ≤ 20) : sAny V n m w = !decide (sCnt V n m w = 0) := by
  cases e : sAny V n m w with
  | false => rw [decide_eq_true ((sCnt_0 hn).mpr e)]; rfl
  | true =>
    rw [decide_eq_false (fun z => ?_)]
    · rfl
    · rw [(sCnt_0 hn).mp z] at e
      cases e
theorem zb_eq {p : Bool} : (zb p = 0) = (p = false) := propext (zb_0 p)
section A2
variable {X : Nat × (Nat → Int32)} {I : Nat → Nat → Int32}
theorem c55 {n : Nat} (hn : n ≤ 20) (hs : I 5 7 = nI n) : zr X 55 0 [.ref 2] [] (zk I) = some (some (.int (sGs (vC I 6) n (I 3 1))), zk I) := by
  rw [k55_0, c21 hn hs, zcb_some, zn_one, k55_14, ← sGs_add]
theorem c56 {n m : Nat} (hn : n ≤ 20) (hs : I 5 7 = nI n) (hm : m < 20) : zr X 56 0 [.ref 2, .int (nI m)] [] (zk I) = some (some (.int (if vC I 6 5 m = 1 then sGs (vC I 6) n (I 3 1) - sG (vC I 6) m else sGs (vC I 6) n (I 3 1))), zk I) := by
  rw [k56_0 (zin_nI hm (by decide)), zx_nI (by omega)]
  by_cases a : I 10 m = 1
  · rw [if_neg (fun z => z a), k56_13, c55 hn hs, zcb_some, zn_one, k56_17, c20 hm, zcb_some, zn_one, k56_25, if_pos (show vC I 6 5 m = 1 from a)]
  · rw [if_pos a, k56_29, c55 hn hs, zcb_some, zn_one, k56_33, if_neg (show ¬ vC I 6 5 m = 1 from a)]
theorem c57 {n m : Nat} (hn : n ≤ 20) (hs : I 5 7 = nI n) (hm : m < 20) : zr X 57 0 [.ref 2, .int (nI m)] [] (zk I) = some (some (.int (zb (sCan (vC I 6) n (I 3 1) m))), zk I) := by
  rw [k57_0 (zin_nI hm (by decide)), zx_nI (by omega)]
  unfold sCan
  by_cases a : I 10 m = 0
  · rw [if_neg (fun z => z a), k57_12, c16 hn hs hm, zcb_some, zn_one, k57_21, sAny_Cnt hn, decide_eq_true (show vC I 6 5 m = 0 from a)]
    by_cases b : sCnt (vC I 6) n m 1 = 0
    · rw [decide_eq_true b, show zb (!true) = 0 from rfl, if_neg (by decide), k57_24, c55 hn hs, zcb_some, zn_one, k57_28, c20 hm, zcb_some, zn_one, k57_36]
      by_cases d : (60 : Int32) < sGs (vC I 6) n (I 3 1) + sG (vC I 6) m
      · rw [if_pos d, k57_46, decide_eq_false (fun z => z d)]
        rfl
      · rw [if_neg d, k57_42, decide_eq_true d]
        rfl
    · rw [decide_eq_false b, show zb (!false) = 1 from rfl, if_pos (by decide), k57_46]
      rfl
  · rw [if_pos a, k57_46, decide_eq_false (show ¬ vC I 6 5 m = 0 from a)]
    rfl
theorem vEq_sCan {V V' : Nat → Nat → Int32} {n m : Nat} {l : Int32} (h : vEq V V' n) (hm : m < n) : sCan V n l m = sCan V' n l m := by
  unfold sCan
  rw [h m 5 hm (by decide), vEq_sCnt h hm, vEq_sGs h, vEq_sG h hm]
/-- count -/
theorem p_count {c : Nat} (hI : Inv c I) (h600 : c ≤ 600) (v : Int32) : Call X c I 102 [.ref 1, .int v] 165 [.ref 160, .int v] := by
  obtain ⟨t, n, hk, ht, hs, hv⟩ := inv_b hI
  have hn : n ≤ 20 := hk.2.1
  have hS : I 161 66 = nI n := hk.2.2.2.1
  have hS0 : zs1 I 160 0 0 161 66 = nI n := by rw [th_161]; exact hS
  have hT : I 161 0 = nI t := hk.2.2.1
  have hend := inv_q hI cQ_rf (mQ_th (v := 0))
  obtain ⟨⟨⟨-, -, -, hv1, -⟩, -, -, vv, hvv, hv2, hv3, -⟩, ⟨u, x, G, hu, hx, hh1, hh2, -⟩, -, p, hp, hp1, hp2, -⟩ := hI
  rcases sw_cases 9 (by decide) v with hb | ⟨j, hj, hw⟩
  · exact ⟨-2, I, zs1 I 160 0 0, by rw [k102_0_d hb, k102_159], by rw [k165_0_d hb, k165_117], hend⟩
  · have hj8 : j = 0 ∨ j = 1 ∨ j = 2 ∨ j = 3 ∨ j = 4 ∨ j = 5 ∨ j = 6 ∨ j = 7 ∨ j = 8 ∨ j = 9 := by omega
    rcases hj8 with rfl | rfl | rfl | rfl | rfl | rfl | rfl | rfl | rfl | rfl
    · exact ⟨nI t, I, zs1 I 160 0 0, by rw [k102_0_c0 hw, k102_56, ht], by rw [k165_0_c0 hw, k165_60, th_161, hT], hend⟩
    · refine ⟨sGs (vM I) n (nI t), I, zs1 I 160 0 0, ?_, ?_, hend⟩
      · rw [k102_0_c1 hw, k102_67, c55 hn hs, zcb_some, zn_one, k102_74, vEq_sGs hv, ht]
        rfl
      · rw [k165_0_c1 hw, k165_67, m128 hn hS0, zcb_some, zn_one, k165_71, vM_th, th_161, hT]
    · exact ⟨nI n, I, zs1 I 160 0 0, by rw [k102_0_c2 hw, k102_75, hs], by rw [k165_0_c2 hw, k165_72, hS0], hend⟩
    · refine ⟨sN (fun i => vM I 5 i == 0) n, I, zs1 I 160 0 0, ?_, ?_, hend⟩
      · rw [k102_0_c3 hw, k102_86, c25 hn hs, zcb_some, zn_one, k102_97, sN_at (fun i hi => by rw [hv i 5 hi (by decide)])]
        rfl
      · rw [k165_0_c3 hw, k165_80, m147 hn hS0, zcb_some, zn_one, k165_87, vM_th, hw]
        rfl
    · refine ⟨sN (fun i => vM I 5 i == 1) n, I, zs1 I 160 0 0, ?_, ?_, hend⟩
      · rw [k102_0_c4 hw, k102_98, c25 hn hs, zcb_some, zn_one, k102_109, sN_at (fun i hi => by rw [hv i 5 hi (by decide)])]
        rfl
      · rw [k165_0_c4 hw, k165_80, m147 hn hS0, zcb_some, zn_one, k165_87, vM_th, hw]
        rfl
    · refine ⟨sQa (vM I) n, I, zs1 I 160 0 0, ?_, ?_, hend⟩
      · rw [k102_0_c5 hw, k102_110, c24 hn hs, zcb_some, zn_one, k102_120, vEq_sQa hv]
        rfl
      · rw [k165_0_c5 hw, k165_88, m164 hn hS0, zcb_some, zn_one, k165_92, vM_th, sQ_half hn]
    · refine ⟨nI vv, I, zs1 I 160 0 0, ?_, ?_, hend⟩
      · rw [k102_0_c6 hw, k102_121, show I 13 2 = I 161 307 from hv1, hv2]
      · rw [k165_0_c6 hw, k165_93 (by rw [hw]; decide), th_161, hw, show zx (307 + nI 6 - 6) = 307 by decide, hv2]
    · refine ⟨nI (min vv 6), I, zs1 I 160 0 0, ?_, ?_, hend⟩
      · rw [k102_0_c7 hw, k102_132, k71_0, zcb_some, zn_one, k102_142, show I 13 2 = I 161 307 from hv1, hv2]
        by_cases h6 : 6 < vv
        · rw [if_pos (show (6 : Int32) < nI vv from nI_lt (a := 6) h6 (by omega)), show min vv 6 = 6 by omega]
          rfl
        · rw [if_neg (show ¬ (6 : Int32) < nI vv from nI_nlt (a := 6) (by omega) (by decide)), show min vv 6 = vv by omega]
      · rw [k165_0_c7 hw, k165_93 (by rw [hw]; decide), th_161, hw, show zx (307 + nI 7 - 6) = 308 by decide, hv3]
    · exact ⟨nI p, I, zs1 I 160 0 0, by rw [k102_0_c8 hw, k102_143, hp1], by rw [k165_0_c8 hw, k165_107, zs1_self, upd_at, if_neg (by decide), hp2], hend⟩
    · exact ⟨nI u, I, zs1 I 160 0 0, by rw [k102_0_c9 hw, k102_151, hh2], by rw [k165_0_c9 hw, k165_112, zs1_self, upd_at, if_neg (by decide), hh1], hend⟩
/-- ifAccepted -/
theorem p_ifAccepted {c : Nat} (hI : Inv c I) (v w : Int32) : Call X c I 105 [.ref 1, .int v, .int w] 170 [.ref 160, .int v, .int w] := by
  obtain ⟨t, n, hk, ht, hs, hv⟩ := inv_b hI
  have hn : n ≤ 20 := hk.2.1
  have hS : I 161 66 = nI n := hk.2.2.2.1
  have hS0 : zs1 I 160 0 0 161 66 = nI n := by rw [th_161]; exact hS
  have hT : I 161 0 = nI t := hk.2.2.1
  have hend := inv_q hI cQ_rf (mQ_th (v := 0))
  rcases mk_cases (n := n) (by omega) v with hb | ⟨m, hm, rfl⟩
  · refine ⟨-1, I, zs1 I 160 0 0, ?_, ?_, hend⟩
    · rw [k105_0, c5n hn hs hb, zcb_some, zn_one, k105_11, if_neg (by decide), k105_14]
    · rw [k170_0, m119n hn hS0 hb, zcb_some, zn_one, k170_10, if_neg (by decide), k170_13]
  · have hm2 : m < 20 := by omega
    have hz := zin_nI hm2 (by decide)
    have ez : zx (nI m) = m := zx_nI (by omega)
    have e5 : I 10 m = vM I 5 m := hv m 5 hm (by decide)
    rcases sw_cases 1 (by decide) w with hb | ⟨j, hj, hw⟩
    · have h1 : ¬ w = 0 := fun z => by rw [z] at hb; exact absurd hb (by decide)
      have h2 : ¬ w = 1 := fun z => by rw [z] at hb; exact absurd hb (by decide)
      have h3 := sw_out (by decide) hb
      refine ⟨-2, I, zs1 I 160 0 0, ?_, ?_, hend⟩
      · rw [k105_0, c5y hn hs hm, zcb_some, zn_one, k105_11, if_pos (by decide), k105_16, if_neg h1, k105_20, if_neg h2, k105_25]
      · rw [k170_0, m119y hn hS0 hm, zcb_some, zn_one, k170_10, if_pos (by decide), k170_15, show (1 : Int32) = nI 1 from rfl, m116n (by decide) h3, zcb_some, zn_one, k170_21, if_neg (by decide), k170_24]
    · have hj2 : j = 0 ∨ j = 1 := by omega
      have hc : ∀ r, zr X 105 28 [.ref 1, .int (nI m), .int w] [] (zk I) = some (some (.int r), zk I) → zr X 105 0 [.ref 1, .int (nI m), .int w] [] (zk I) = some (some (.int r), zk I) := by
        intro r h
        rw [k105_0, c5y hn hs hm, zcb_some, zn_one, k105_11, if_pos (by decide), k105_16]
        rcases hj2 with rfl | rfl
        · rw [if_pos (show w = 0 from hw), h]
        · rw [if_neg (by rw [hw]; decide), k105_20, if_pos (show w = 1 from hw), h]
      have hM : ∀ r, zr X 170 27 [.ref 160, .int (nI m), .int w] [] (zk (zs1 I 160 0 0)) = some (some (.int r), zk (zs1 I 160 0 0)) → zr X 170 0 [.ref 160, .int (nI m), .int w] [] (zk I) = some (some (.int r), zk (zs1 I 160 0 0)) := by
        intro r h
        rw [k170_0, m119y hn hS0 hm, zcb_some, zn_one, k170_10, if_pos (by decide), k170_15, hw, show (1 : Int32) = nI 1 from rfl, m116y hj (by decide), zcb_some, zn_one, k170_21, if_pos (by decide), ← hw, h]
      by_cases a : vM I 5 m = 0
      · have a2 : I 10 m = 0 := by rw [e5]; exact a
        by_cases b : sAny (vM I) n m 1 = true
        · refine ⟨-5, I, zs1 I 160 0 0, hc _ ?_, hM _ ?_, hend⟩
          · rw [k105_28 hz, ez, if_neg (fun z => z a2), k105_43, c16 hn hs hm2, zcb_some, zn_one, k105_55, vEq_sAny hv hm, show sAny (vR (I 161)) n m 1 = true from b, if_neg (by decide), k105_58]
          · rw [k170_27, m117_5 (by omega), zcb_some, zn_one, k170_33, vM_th, if_neg (fun z => z a), k170_36, m126 hn hS0 (by omega), zcb_some, zn_one, k170_42, vM_th, if_neg, k170_45]
            intro z
            have h1 : sCnt (vM I) n m 1 = nI (zct (fun i => !(nI i == nI m) && (vM I 5 i == 1 && sC (vM I) m i)) n) := sN_zct _ _
            have h2 := zct_le (fun i => !(nI i == nI m) && (vM I 5 i == 1 && sC (vM I) m i)) n
            rw [h1, show (0 : Int32) = nI 0 from rfl, nI_le_iff (by omega) (by decide)] at z
            have h3 : sCnt (vM I) n m 1 = 0 := by rw [h1, Nat.le_zero.mp z]; rfl
            rw [(sCnt_0 hn).mp h3] at b
            cases b
        · rw [Bool.not_eq_true] at b
          have b0 := (sCnt_0 (w := 1) hn).mpr b
          have hc2 : ∀ r, zr X 105 61 [.ref 1, .int (nI m), .int w] [] (zk I) = some (some (.int r), zk I) → zr X 105 0 [.ref 1, .int (nI m), .int w] [] (zk I) = some (some (.int r), zk I) := by
            intro r h
            refine hc _ ?_
            rw [k105_28 hz, ez, if_neg (fun z => z a2), k105_43, c16 hn hs hm2, zcb_some, zn_one, k105_55, vEq_sAny hv hm, show sAny (vR (I 161)) n m 1 = false from b, if_pos (by decide), h]
          have hM2 : ∀ r, zr X 170 48 [.ref 160, .int (nI m), .int w] [] (zk (zs1 I 160 0 0)) = some (some (.int r), zk (zs1 I 160 0 0)) → zr X 170 0 [.ref 160, .int (nI m), .int w] [] (zk I) = some (some (.int r), zk (zs1 I 160 0 0)) := by
            intro r h
            refine hM _ ?_
            rw [k170_27, m117_5 (by omega), zcb_some, zn_one, k170_33, vM_th, if_neg (fun z => z a), k170_36, m126 hn hS0 (by omega), zcb_some, zn_one, k170_42, vM_th, b0, if_pos (by decide), h]
          rcases hj2 with rfl | rfl
          · refine ⟨sCnt (vM I) n m 0, I, zs1 I 160 0 0, hc2 _ ?_, hM2 _ ?_, hend⟩
            · rw [k105_61, if_neg (fun z => z hw), k105_65, c18 hn hs hm2, zcb_some, zn_one, k105_76, vEq_sCnt hv hm]
              rfl
            · rw [k170_48, if_neg (fun z => z hw), k170_52, m126 hn hS0 (by omega), zcb_some, zn_one, k170_58, vM_th]
          · have h0 : ¬ w = 0 := by rw [hw]; decide
            refine ⟨sGs (vM I) n (I 161 0) + sG (vM I) m, I, zs1 I 160 0 0, hc2 _ ?_, hM2 _ ?_, hend⟩
            · rw [k105_61, if_pos h0, k105_79, c55 hn hs, zcb_some, zn_one, k105_86, c20 hm2, zcb_some, zn_one, k105_97, vEq_sGs hv, vEq_sG hv hm, ht, hT]
              rfl
            · rw [k170_48, if_pos h0, k170_61, m128 hn hS0, zcb_some, zn_one, k170_65, m127 (by omega), zcb_some, zn_one, k170_70, vM_th, th_161]
      · have a2 : ¬ I 10 m = 0 := by rw [e5]; exact a
        refine ⟨-5, I, zs1 I 160 0 0, hc _ ?_, hM _ ?_, hend⟩
        · rw [k105_28 hz, ez, if_pos a2, k105_58]
        · rw [k170_27, m117_5 (by omega), zcb_some, zn_one, k170_33, vM_th, if_pos a, k170_45]
/-- wipe -/
theorem p_wipe {c : Nat} (hI : Inv c I) : Call X c I 108 [.ref 1, .null] 173 [.ref 160, .null] := by
  obtain ⟨⟨n1, n2⟩, hh, hl, p, hp, hp1, hp2, hp3⟩ := hI
  refine ⟨nI p, zs1 I 142 1 0, zs1 (zs1 (zs1 I 142 1 0) 160 0 0) 160 8 0, ?_, ?_, ?_⟩
  · rw [k108_0, k35_0, zcb_some, zn_nil, k108_15, hp1]
  · rw [k173_0, zs1_self, upd_at, if_neg (by decide), zs1_ne (by decide), hp2]
  · have e : ∀ t, t ≠ 142 → t ≠ 160 → zs1 (zs1 (zs1 I 142 1 0) 160 0 0) 160 8 0 t = I t := fun t h1 h2 => by rw [zs1_ne h2, zs1_ne h2, zs1_ne h1]
    refine ⟨⟨?_, ?_⟩, iH_keep (Nat.le_succ c) (e _ (by decide) (by decide)) (fun t t1 t2 => e t (by omega) (by omega)) ?_ (e _ (by decide) (by decide)) hh, iL_keep (Nat.le_succ c) (e _ (by decide) (by decide)) (e _ (by decide) (by decide)) (fun t t1 t2 => e t (by omega) (by omega)) (e _ (by decide) (by decide)) hl, ⟨0, by decide, ?_, ?_, fun k hk => absurd hk (Nat.not_lt_zero _)⟩⟩
    · rw [e _ (by decide) (by decide)]
      exact hR_cells (fun t t1 t2 => e t (by omega) (by omega)) n1
    · rw [e _ (by decide) (by decide)]
      exact wS_le n2 (Nat.le_succ c)
    · rw [zs1_self, upd_at, if_neg (by decide), zs1_self, upd_at, if_neg (by decide), zs1_ne (by decide)]
    · rw [zs1_ne (by decide), zs1_ne (by decide), zs1_self, upd_at, if_pos rfl]
      rfl
    · rw [zs1_self, upd_at, if_pos rfl]
      rfl
end A2
