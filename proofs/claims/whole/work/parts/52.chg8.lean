/-! strike -/
def rLay (S : Nat → Int32) (n : Nat) (a b c d : Int32) (k : Nat) : Int32 := if k = 67 + 12 * n + 3 then d else if k = 67 + 12 * n + 2 then c else if k = 67 + 12 * n + 1 then b else if k = 67 + 12 * n + 0 then a else if 67 + 12 * n ≤ k ∧ k < 67 + 12 * n + 12 then 0 else S k
theorem zlay_up {I : Nat → Nat → Int32} {n : Nat} {a b c d : Int32} : zlay I n a b c d = zup I 161 (rLay (I 161) n a b c d) := by
  unfold zlay zfw
  rw [zs1_zup, zs1_zup, zs1_zup, zs1_zup]
  rfl
/-- the row of a new mark without letters -/
def dRow (a b c d : Int32) (w : Nat) : Int32 := match w with
  | 0 => a
  | 1 => b
  | 2 => c
  | 3 => d
  | _ => 0
theorem rLay_n {S : Nat → Int32} {n w : Nat} {a b c d : Int32} (hw : w < 12) : vR (rLay S n a b c d) w n = dRow a b c d w := by
  have hw12 : w = 0 ∨ w = 1 ∨ w = 2 ∨ w = 3 ∨ (w ≠ 0 ∧ w ≠ 1 ∧ w ≠ 2 ∧ w ≠ 3) := by omega
  rcases hw12 with rfl | rfl | rfl | rfl | ⟨h0, h1, h2, h3⟩
  · show rLay S n a b c d (67 + 12 * n + 0) = a
    unfold rLay
    rw [if_neg (by omega), if_neg (by omega), if_neg (by omega), if_pos rfl]
  · show rLay S n a b c d (67 + 12 * n + 1) = b
    unfold rLay
    rw [if_neg (by omega), if_neg (by omega), if_pos rfl]
  · show rLay S n a b c d (67 + 12 * n + 2) = c
    unfold rLay
    rw [if_neg (by omega), if_pos rfl]
  · show rLay S n a b c d (67 + 12 * n + 3) = d
    unfold rLay
    rw [if_pos rfl]
  · have e : dRow a b c d w = 0 := by
      unfold dRow
      split
      · exact absurd rfl h0
      · exact absurd rfl h1
      · exact absurd rfl h2
      · exact absurd rfl h3
      · rfl
    rw [e]
    unfold vR rLay
    rw [if_neg (by omega), if_neg (by omega), if_neg (by omega), if_neg (by omega), if_pos (by omega)]
theorem rLay_o {S : Nat → Int32} {n k : Nat} {a b c d : Int32} (h : ¬ (67 + 12 * n ≤ k ∧ k < 79 + 12 * n)) : rLay S n a b c d k = S k := by
  unfold rLay
  rw [if_neg (by omega), if_neg (by omega), if_neg (by omega), if_neg (by omega), if_neg (by omega)]
theorem rLay_lo {S : Nat → Int32} {n i w : Nat} {a b c d : Int32} (hi : i < n) (hw : w < 12) : vR (rLay S n a b c d) w i = vR S w i := rLay_o (by omega)
theorem rLay_own {S : Nat → Int32} {D : Nat → Nat → Int32} {n q : Nat} {a b c d : Int32} (hD : ∀ w, w < 6 → D w q = dRow a b c d w) : sOwn (vR (rLay S n a b c d)) n n = zan (pD (vR S) D q) 0 n := by
  unfold sOwn
  refine zan_map (fun i hi => ?_)
  unfold pOwn pD
  rw [sC_comm]
  unfold sD sC
  rw [rLay_lo hi (by decide), rLay_lo hi (by decide), rLay_lo hi (by decide), rLay_lo hi (by decide), rLay_lo hi (by decide), rLay_n (by decide), rLay_n (by decide), rLay_n (by decide), rLay_n (by decide), hD 0 (by decide), hD 1 (by decide), hD 2 (by decide), hD 3 (by decide)]
section B8
variable {X : Nat × (Nat → Int32)} {I : Nat → Nat → Int32}
theorem c6 {s : Nat} {e k a b : Int32} (hs : I 145 7 = nI s) (h : s < 20) : ∃ J, zr X 6 0 [.ref 145, .int e, .int k, .int a, .int b] [] (zk I) = some (none, zk J) ∧ J 145 7 = nI (s + 1) ∧ (∀ t, t < 145 ∨ 152 ≤ t → J t = I t) ∧ ∀ r w, w < 6 → vC J 146 w r = if r = s then dRow e k a b w else vC I 146 w r := by
  have ez : zx (I 145 7) = s := by rw [hs]; exact zx_nI (by omega)
  rw [k6_0, hs, if_neg (show ¬ (20 : Int32) ≤ nI s from nI_ge (b := 20) h (by decide)), k6_9 (by rw [hs]; exact zin_nI h (by decide)), ez, hs, ← nI_succ]
  refine ⟨_, rfl, ?_, fun t ht => ?_, fun r w hw => ?_⟩
  · rw [zs1_self, upd_at, if_pos rfl]
  · simp (disch := omega) only [zs1_ne]
  · have hw5 : w = 0 ∨ w = 1 ∨ w = 2 ∨ w = 3 ∨ w = 4 ∨ w = 5 := by omega
    rcases hw5 with rfl | rfl | rfl | rfl | rfl | rfl <;> (unfold vC dRow; simp (disch := omega) only [zs1_ne, zs1_self, upd_at, Nat.reduceAdd])
theorem p_strike {c : Nat} (hI : Inv c I) (v a b : Int32) : Call X c I 91 [.ref 1, .int v, .int a, .int b, .null] 143 [.ref 160, .int v, .int a, .int b, .null] := by
  obtain ⟨t, n, hk, ht, hs, hv⟩ := inv_b hI
  have hn : n ≤ 20 := hk.2.1
  have ht60 : t ≤ 60 := hk.1
  have hS : I 161 66 = nI n := hk.2.2.2.1
  have hT : I 161 0 = nI t := hk.2.2.1
  have hS0 : zs1 I 160 0 0 161 66 = nI n := by rw [th_161]; exact hS
  have hT0 : zs1 I 160 0 0 161 0 = nI t := by rw [th_161]; exact hT
  have hend := inv_q hI cQ_rf (mQ_th (v := 0))
  have hgap : ∀ g : Int32, (g < 0 ∨ nI (t + 1) ≤ g) → g < 0 ∨ nI t < g := fun g h => h.imp id (fun z => Int32.lt_of_lt_of_le (nI_lt (Nat.lt_succ_self t) (by omega)) z)
  rcases mk_cases (n := 5) (by omega) v with hb | ⟨e, he, rfl⟩
  · refine ⟨-1, I, zs1 I 160 0 0, ?_, ?_, hend⟩
    · rw [k91_0, c113n hb, zcb_some, zn_one, k91_4, if_pos rfl, k91_29]
    · rw [k143_0, m120n hb, zcb_some, zn_one, k143_9, if_pos rfl, k143_40]
  · rcases mk_cases (n := t + 1) (by omega) a with ha | ⟨a, ha, rfl⟩
    · refine ⟨-1, I, zs1 I 160 0 0, ?_, ?_, hend⟩
      · rw [k91_0, c113y he, zcb_some, zn_one, k91_4, if_neg (by decide), k91_7, c53n ht60 ht ha, zcb_some, zn_one, k91_15, if_pos rfl, k91_29]
      · rw [k143_0, m120y he, zcb_some, zn_one, k143_9, if_neg (by decide), k143_12, hT0, m116n (by omega) (hgap _ ha), zcb_some, zn_one, k143_23, if_pos rfl, k143_40]
    · rcases mk_cases (n := t + 1) (by omega) b with hb | ⟨b, hb, rfl⟩
      · refine ⟨-1, I, zs1 I 160 0 0, ?_, ?_, hend⟩
        · rw [k91_0, c113y he, zcb_some, zn_one, k91_4, if_neg (by decide), k91_7, c53y ht60 ht (by omega), zcb_some, zn_one, k91_15, if_neg (by decide), k91_18, c53n ht60 ht hb, zcb_some, zn_one, k91_26, if_neg (by decide), k91_29]
        · rw [k143_0, m120y he, zcb_some, zn_one, k143_9, if_neg (by decide), k143_12, hT0, m116y (by omega) (by omega), zcb_some, zn_one, k143_23, if_neg (by decide), k143_26, hT0, m116n (by omega) (hgap _ hb), zcb_some, zn_one, k143_37, if_neg (by decide), k143_40]
      · have hc : ∀ r, zr X 91 31 [.ref 1, .int (nI e), .int (nI a), .int (nI b), .null] [] (zk I) = r → zr X 91 0 [.ref 1, .int (nI e), .int (nI a), .int (nI b), .null] [] (zk I) = r := by
          intro r h
          rw [k91_0, c113y he, zcb_some, zn_one, k91_4, if_neg (by decide), k91_7, c53y ht60 ht (by omega), zcb_some, zn_one, k91_15, if_neg (by decide), k91_18, c53y ht60 ht (by omega), zcb_some, zn_one, k91_26, if_pos (by decide), h]
        have hM : ∀ (J1 : Nat → Nat → Int32) r, J1 161 = I 161 → zr X 143 42 [.ref 160, .int (nI e), .int (nI a), .int (nI b), .null] [] (zk (zs1 J1 160 0 0)) = r → zr X 143 0 [.ref 160, .int (nI e), .int (nI a), .int (nI b), .null] [] (zk J1) = r := by
          intro J1 r h1 h
          have hT0 : zs1 J1 160 0 0 161 0 = nI t := by rw [zs1_ne (by decide), h1]; exact hT
          rw [k143_0, m120y he, zcb_some, zn_one, k143_9, if_neg (by decide), k143_12, hT0, m116y (by omega) (by omega), zcb_some, zn_one, k143_23, if_neg (by decide), k143_26, hT0, m116y (by omega) (by omega), zcb_some, zn_one, k143_37, if_pos (by decide), h]
        by_cases hab : a < b
        · by_cases hn20 : n = 20
          · refine ⟨-4, I, zs1 I 160 0 0, hc _ ?_, hM I _ rfl ?_, hend⟩
            · rw [k91_31, if_pos (nI_lt hab (by omega)), k91_39, hs, hn20, if_neg (by decide), k91_54]
            · rw [k143_42, if_pos (nI_lt hab (by omega)), k143_50, hS0, hn20, if_neg (by decide), k143_62]
          · have hn2 : n < 20 := by omega
            obtain ⟨D, d1, d2, d3, d4⟩ := c6 (X := X) (I := zs1 I 145 7 0) (s := 0) (e := nI e) (k := 0) (a := nI a) (b := nI b) (by rw [zs1_self, upd_at, if_pos rfl]; rfl) (by decide)
            have dI : ∀ t, t < 145 ∨ 152 ≤ t → D t = I t := fun t ht => (d3 t ht).trans (zs1_ne (by omega))
            have hvD : vEq (vC D 6) (vR (I 161)) n := vEq_cells (fun q q1 q2 => dI q (by omega)) hv
            have hrow : ∀ w, w < 6 → vC D 146 w 0 = dRow (nI e) 0 (nI a) (nI b) w := fun w hw => by rw [d4 0 w hw, if_pos rfl]
            have hzan : zan (pD (vC D 6) (vC D 146) 0) 0 n = zan (pD (vR (I 161)) (vC D 146) 0) 0 n := by
              refine zan_map (fun i hi => ?_)
              unfold pD sD
              rw [hvD i 0 hi (by decide), hvD i 5 hi (by decide), hvD i 1 hi (by decide), hvD i 2 hi (by decide), hvD i 3 hi (by decide)]
            have hC2 : ∀ r, (if zb (zan (pD (vR (I 161)) (vC D 146) 0) 0 n) = 0 then zr X 91 99 [.ref 1, .int (nI e), .int (nI a), .int (nI b), .ref 145] [] (zk D) else zr X 91 96 [.ref 1, .int (nI e), .int (nI a), .int (nI b), .ref 145] [] (zk D)) = r → zr X 91 31 [.ref 1, .int (nI e), .int (nI a), .int (nI b), .null] [] (zk I) = r := by
              intro r h
              have c15' := c15 (X := X) (I := D) (d := 0) hn (by rw [dI 5 (by decide)]; exact hs) (by decide)
              have h0 : nI 0 = 0 := nI_0
              rw [h0] at c15'
              rw [k91_31, if_pos (nI_lt hab (by omega)), k91_39, hs, if_pos (show nI n < 20 from nI_lt (b := 20) hn2 (by decide)), k91_57, k4_0, zcb_some, zn_nil, k91_71, d1, zcb_some, zn_nil, k91_80, c15', zcb_some, zn_one, k91_93, hzan, h]
            have hM2 : ∀ (J1 : Nat → Nat → Int32) r, J1 161 = I 161 → (if zb (zan (pD (vR (I 161)) (vC D 146) 0) 0 n) = 0 then zr X 143 105 [.ref 160, .int (nI e), .int (nI a), .int (nI b), .int (zb (zan (pD (vR (I 161)) (vC D 146) 0) 0 n))] [] (zk (zup (zs1 J1 160 0 0) 161 (fun k => if 67 + 12 * n ≤ k ∧ k < 67 + 12 * n + 12 then 0 else I 161 k))) else zr X 143 102 [.ref 160, .int (nI e), .int (nI a), .int (nI b), .int (zb (zan (pD (vR (I 161)) (vC D 146) 0) 0 n))] [] (zk (zup (zs1 J1 160 0 0) 161 (fun k => if 67 + 12 * n ≤ k ∧ k < 67 + 12 * n + 12 then 0 else I 161 k)))) = r → zr X 143 42 [.ref 160, .int (nI e), .int (nI a), .int (nI b), .null] [] (zk (zs1 J1 160 0 0)) = r := by
              intro J1 r h1 h
              have e161 : zs1 J1 160 0 0 161 = I 161 := (zs1_ne (by decide)).trans h1
              have m140' := m140 (X := X) (I := zs1 J1 160 0 0) (n := n) (a := nI e) (b := 0) (c := nI a) (d := nI b) hn (by rw [e161]; exact hS)
              rw [zlay_up, e161] at m140'
              have s66 : zup (zs1 J1 160 0 0) 161 (rLay (I 161) n (nI e) 0 (nI a) (nI b)) 161 66 = nI n := by
                rw [zup_self, rLay_o (by omega)]
                exact hS
              have hfw : zfw (zup (zs1 J1 160 0 0) 161 (rLay (I 161) n (nI e) 0 (nI a) (nI b))) 161 (67 + 12 * n) (fun _ => 0) 12 = zup (zs1 J1 160 0 0) 161 (fun k => if 67 + 12 * n ≤ k ∧ k < 67 + 12 * n + 12 then 0 else I 161 k) := by
                unfold zfw
                rw [zup_zup, zup_self]
                congr 1
                funext k
                by_cases b : 67 + 12 * n ≤ k ∧ k < 67 + 12 * n + 12
                · rw [if_pos b, if_pos b]
                · rw [if_neg b, if_neg b, rLay_o (by omega)]
              rw [k143_42, if_pos (nI_lt hab (by omega)), k143_50, e161, hS, if_pos (show ¬ nI n = 20 from fun z => hn20 ((nI_inj (b := 20) (by omega) (by decide)).mp z)), k143_65, m140', zcb_some, zn_nil, k143_73, s66, m138 hn, zcb_some, zn_one, k143_84, s66, m139 hn, zcb_some, zn_nil, k143_97, vM_vR, zup_self, rLay_own (D := vC D 146) (q := 0) hrow, hfw, h]
            have hxe : xEq n (I 161) (fun k => if 67 + 12 * n ≤ k ∧ k < 67 + 12 * n + 12 then 0 else I 161 k) := fun k k1 k2 => if_neg (by omega)
            by_cases hz : zan (pD (vR (I 161)) (vC D 146) 0) 0 n = true
            · have dQ : cQ I D := fun t ht => dI t (by omega)
              refine ⟨-5, D, _, hc _ (hC2 _ ?_), hM D _ (dI _ (by decide)) (hM2 D _ (dI _ (by decide)) ?_), inv_q' (J := zup (zs1 D 160 0 0) 161 (fun k => if 67 + 12 * n ≤ k ∧ k < 67 + 12 * n + 12 then 0 else I 161 k)) hI dQ (fun t ht => ?_) ?_ ?_ (fun t t1 t2 => ?_) ?_ ?_⟩
              · rw [hz, if_neg (by decide), k91_96]
              · rw [hz, if_neg (by decide), k143_102]
              · rw [zup_ne (by omega), zs1_ne (by omega)]
              · rw [zup_ne (by decide), th_160 (by decide)]
              · rw [zup_ne (by decide), th_160 (by decide)]
              · rw [zup_ne (by omega), zs1_ne (by omega)]
              · rw [zup_self]
                exact xEq_hR hxe hn2 hk hI.1.2 hI.1.1
              · rw [zup_self]
                exact xEq_wS hxe hn2 hk hI.1.2
            · rw [Bool.not_eq_true] at hz
              have hiD : iH c D := iH_keep (Nat.le_refl c) (dI _ (by decide)) (fun t t1 t2 => dI t (by omega)) (congrFun (dI 160 (by decide)) 4) (dI _ (by decide)) hI.2.1
              obtain ⟨R, r1, r2, r3⟩ := c1x (X := X) hiD
              have rI : ∀ t, t ≠ 17 → t ≤ 19 ∨ 109 ≤ t → t < 145 ∨ 152 ≤ t → R t = I t := fun t t1 t2 t3 => (r2 t t1 t2).trans (dI t t3)
              have rD : ∀ t, 109 ≤ t → R t = D t := fun t t1 => r2 t (by omega) (Or.inr t1)
              obtain ⟨Q, q1, q2, q3, q4, q5⟩ := c8 (X := X) (I := R) (n := n) (d := 0) hn2 (by rw [rI 5 (by decide) (by decide) (by decide)]; exact hs) (by decide)
              have h0 : nI 0 = 0 := nI_0
              rw [h0] at q1
              have qI : ∀ t, 109 ≤ t → t < 145 ∨ 152 ≤ t → Q t = I t := fun t t1 t2 => (q3 t (by omega)).trans (rI t (by omega) (Or.inr t1) t2)
              obtain ⟨K, k1, k2, k3, k4⟩ := m121y (X := X) hI.2.1 (I1 := zup (zs1 Q 160 0 0) 161 (fun k => if 67 + 12 * n ≤ k ∧ k < 67 + 12 * n + 12 then 0 else I 161 k)) (by rw [zup_ne (by decide), th_160 (by decide), qI _ (by decide) (by decide)])
              have k161 : K 161 = fun k => if 67 + 12 * n ≤ k ∧ k < 67 + 12 * n + 12 then 0 else I 161 k := (k2 161 (by decide) (by decide)).trans zup_self
              have m140' := m140 (X := X) (I := K) (n := n) (a := nI e) (b := 0) (c := nI a) (d := nI b) hn (by rw [k161]; exact (if_neg (by omega)).trans hS)
              rw [zlay_up, k161] at m140'
              have hSS : ∀ S' : Nat → Int32, S' = upd (rLay (fun k => if 67 + 12 * n ≤ k ∧ k < 67 + 12 * n + 12 then 0 else I 161 k) n (nI e) 0 (nI a) (nI b)) 66 (nI (n + 1)) → nEq n (I 161) S' (vC R 146) (R 152) 0 := by
                intro S' hS'
                subst hS'
                have hr0 : ∀ w, w < 6 → vC R 146 w 0 = dRow (nI e) 0 (nI a) (nI b) w := by
                  intro w hw
                  rw [← hrow w hw]
                  have hw5 : w = 0 ∨ w = 1 ∨ w = 2 ∨ w = 3 ∨ w = 4 ∨ w = 5 := by omega
                  rcases hw5 with rfl | rfl | rfl | rfl | rfl | rfl <;> exact congrFun (rD _ (by decide)) 0
                refine ⟨fun k k1 k2 k3 => ?_, by rw [upd_at, if_pos rfl], fun w hw => ?_, fun k hk => ?_⟩
                · rw [upd_at, if_neg k2, rLay_o k3, if_neg (by omega)]
                · rw [hr0 w hw, ← rLay_n (S := fun k => if 67 + 12 * n ≤ k ∧ k < 67 + 12 * n + 12 then 0 else I 161 k) (n := n) (show w < 12 by omega)]
                  unfold vR
                  rw [upd_at, if_neg (by omega)]
                · rw [hr0 4 (by decide)] at hk
                  exact absurd hk (Nat.not_lt_zero _)
              have hR4 : ∀ r, r < 20 → ∀ w, w < 6 → vC R 6 w r = vC I 6 w r := by
                intro r _ w hw
                have hw5 : w = 0 ∨ w = 1 ∨ w = 2 ∨ w = 3 ∨ w = 4 ∨ w = 5 := by omega
                rcases hw5 with rfl | rfl | rfl | rfl | rfl | rfl <;> exact congrFun (rI _ (by decide) (by decide) (by decide)) r
              have hnE := hSS _ rfl
              have hwM : wM t (vC R 146) 0 := by
                refine wM_at (V := fun w _ => dRow (nI e) 0 (nI a) (nI b) w) (fun w hw => ?_) ⟨e, 0, a, b, 0, 0, rfl, rfl, rfl, rfl, rfl, rfl, he, by decide, by omega, by omega, by decide, by decide, ⟨fun z => by omega, fun z => by omega⟩, fun _ => rfl⟩
                show dRow (nI e) 0 (nI a) (nI b) w = vC R 146 w 0
                rw [← hrow w hw]
                have hw5 : w = 0 ∨ w = 1 ∨ w = 2 ∨ w = 3 ∨ w = 4 ∨ w = 5 := by omega
                rcases hw5 with rfl | rfl | rfl | rfl | rfl | rfl <;> exact (congrFun (rD _ (by decide)) 0).symm
              have hRD : ∀ w, w < 6 → vC R 146 w 0 = vC D 146 w 0 := by
                intro w hw
                have hw5 : w = 0 ∨ w = 1 ∨ w = 2 ∨ w = 3 ∨ w = 4 ∨ w = 5 := by omega
                rcases hw5 with rfl | rfl | rfl | rfl | rfl | rfl <;> exact congrFun (rD _ (by decide)) 0
              have hz2 : zan (pD (vR (I 161)) (vC R 146) 0) 0 n = false := by
                rw [← hz]
                refine zan_map (fun i hi => ?_)
                unfold pD sD
                rw [hRD 0 (by decide), hRD 1 (by decide), hRD 2 (by decide), hRD 3 (by decide)]
              have hwk := nEq_wK hnE hn2 hk hwM ((hRD 5 (by decide)).trans (hrow 5 (by decide))) hz2
              have hrR : hR R 2 (I 161) := hR_cells (fun t t1 t2 => rI t (by omega) (by omega) (by omega)) hI.1.1
              have hres := nEq_hR (I := R) (J := Q) hnE hn2 (wM_p hwM).1 hk hI.1.2 (fun t t1 t2 => q3 t (by omega)) q2 q4 q5 hrR
              refine ⟨nI n, Q, zup K 161 (upd (rLay (fun k => if 67 + 12 * n ≤ k ∧ k < 67 + 12 * n + 12 then 0 else I 161 k) n (nI e) 0 (nI a) (nI b)) 66 (nI (n + 1))), hc _ (hC2 _ ?_), hM Q _ (qI _ (by decide) (by decide)) (hM2 Q _ (qI _ (by decide) (by decide)) ?_), ?_⟩
              · rw [hz, if_pos (show zb false = 0 from rfl), k91_99, r1, zcb_some, zn_nil, k91_110, q1, zcb_some, zn_nil, k91_123, q2, show nI (n + 1) - 1 = nI n from zI_sub (b := 1) (by omega)]
              · rw [hz, if_pos (show zb false = 0 from rfl), k143_105, k1, zcb_some, zn_nil, k143_109, m140', zcb_some, zn_nil, k143_117, zup_self, rLay_o (by omega), if_neg (by omega), hS, ← nI_succ, zs1_zup, zup_self, upd_at, if_pos rfl, show nI (n + 1) - 1 = nI n from zI_sub (b := 1) (by omega)]
              · have hrC : rC I R := by
                  intro u x hu hx h1 h2
                  obtain ⟨a1, a2, a3, a4⟩ := r3 u x hu hx (by rw [dI 17 (by decide)]; exact h1) (by rw [dI 17 (by decide)]; exact h2)
                  refine ⟨a1, a2, ?_, fun t t1 t2 t3 => (a4 t t1 t2 t3).trans (dI t (by omega))⟩
                  obtain ⟨g1, g2, g3, g4, g5, g6, g7, g8, g9⟩ := a3
                  have hd : ∀ q, q < 15 → D (2 + q) = I (2 + q) := fun q hq => dI _ (by omega)
                  refine ⟨?_, fun k hk => ?_, ?_, fun q q1 q2 k hk => ?_, fun k hk => ?_, ?_, fun k hk => ?_, fun k hk => ?_, fun k hk => ?_⟩ <;> rw [← hd _ (by omega)]
                  · exact g1
                  · exact g2 k hk
                  · exact g3
                  · exact g4 q q1 q2 k hk
                  · exact g5 k hk
                  · exact g6
                  · exact g7 k hk
                  · exact g8 k hk
                  · exact g9 k hk
                have hKlo : ∀ t, t ≠ 160 → t ≠ 161 → t ≠ 163 → K t = Q t := fun t t1 t2 t3 => by rw [k2 t t1 t3, zup_ne t2, zs1_ne t1]
                have k160 : ∀ k, k ≠ 4 → k ≠ 0 → K 160 k = I 160 k := fun k h4 h0 => by rw [k3 k h4, zup_ne (by decide), th_160 h0, qI _ (by decide) (by decide)]
                refine inv_chgp (J1 := Q) (R := R) (K := K) (M := zup (zs1 Q 160 0 0) 161 (fun k => if 67 + 12 * n ≤ k ∧ k < 67 + 12 * n + 12 then 0 else I 161 k)) (T := fun k => if 67 + 12 * n ≤ k ∧ k < 67 + 12 * n + 12 then 0 else I 161 k) (J := zup K 161 (upd (rLay (fun k => if 67 + 12 * n ≤ k ∧ k < 67 + 12 * n + 12 then 0 else I 161 k) n (nI e) 0 (nI a) (nI b)) 66 (nI (n + 1)))) hI hrC (fun t a b d => rI t a b (by omega)) (fun t t1 t2 => q3 t (by omega)) ?_ ?_ ?_ (xEq_hR hxe hn2 hk hI.1.2 hI.1.1) (xEq_wS hxe hn2 hk hI.1.2) (fun t t1 => ?_) ?_ ?_ ?_ ?_ zup_self hres (nEq_wS hnE hn2 hwk (wS_le hI.1.2 (Nat.le_succ c))) ?_
                · rw [zup_ne (by decide), th_160 (by decide), qI _ (by decide) (by decide)]
                · rw [zup_ne (by decide), zs1_ne (by decide), qI _ (by decide) (by decide)]
                · rw [zup_self] at k4
                  exact k4
                · rw [zup_ne (by omega)]
                  exact hKlo t (by omega) (by omega) (by omega)
                · rw [zup_ne (by decide), hKlo _ (by decide) (by decide) (by decide), qI _ (by decide) (by decide)]
                · rw [zup_ne (by decide), hKlo _ (by decide) (by decide) (by decide), qI _ (by decide) (by decide)]
                · rw [zup_ne (by decide)]
                · rw [zup_ne (by decide)]
                · refine iP_keep ?_ ?_ ?_ ?_ hI.2.2.2
                  · rw [zup_ne (by decide), hKlo _ (by decide) (by decide) (by decide), qI _ (by decide) (by decide)]
                  · rw [zup_ne (by decide), k160 _ (by decide) (by decide)]
                  · rw [zup_ne (by decide), hKlo _ (by decide) (by decide) (by decide), qI _ (by decide) (by decide)]
                  · rw [zup_ne (by decide), hKlo _ (by decide) (by decide) (by decide), qI _ (by decide) (by decide)]
        · refine ⟨-2, I, zs1 I 160 0 0, hc _ ?_, hM I _ rfl ?_, hend⟩
          · rw [k91_31, if_neg (nI_nlt (by omega) (by omega)), k91_36]
          · rw [k143_42, if_neg (nI_nlt (by omega) (by omega)), k143_47]
end B8
