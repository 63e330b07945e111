/-! undo, save, restore -/
section B4
variable {X : Nat × (Nat → Int32)} {I : Nat → Nat → Int32}
theorem th_160 {v : Int32} {k : Nat} (h : k ≠ 0) : zs1 I 160 0 v 160 k = I 160 k := by
  rw [zs1_self, upd_at, if_neg h]
theorem zfw_eq {d : Nat} {g : Nat → Int32} {n : Nat} : ∀ k, k < n → zfw I d 0 g n d k = g k := fun k hk => by
  rw [zfw_self, if_pos (by omega)]
  rfl
/-- the reference's loop of undo -/
theorem m182l {u : Nat} (hu : u < 6) (h4 : I 160 4 = nI u) : zr X 182 27 [.ref 160, .int 0] [] (zk I) = some (some (.int (nI u)), zk (zfw I 161 0 (fun k => I 163 (675 * u + k)) 675)) := by
  have h : ∀ k i, i + k = 675 → zr X 182 27 [.ref 160, .int (nI i)] [] (zk (zfw I 161 0 (fun k => I 163 (675 * u + k)) i)) = some (some (.int (nI u)), zk (zfw I 161 0 (fun k => I 163 (675 * u + k)) 675)) := by
    intro k
    induction k with
    | zero =>
      intro i hi
      have e : i = 675 := by omega
      subst e
      rw [k182_27, if_pos (by decide), k182_61, zfw_ne (by decide), h4]
    | succ k ih =>
      intro i hi
      have e := zfw_succ (I := I) (d := 161) (off := 0) (k := i) (g := fun k => I 163 (675 * u + k))
      rw [Nat.zero_add] at e
      rw [k182_27, if_neg (show ¬ (675 : Int32) ≤ nI i from nI_ge (b := 675) (by omega) (by decide)), k182_34 (by rw [zfw_ne (by decide), h4, z675]; exact zin_nI (by omega) (by decide)) (zin_nI (by omega) (by decide)), zfw_ne (t := 160) (by decide), zfw_ne (t := 163) (by decide), h4, z675, zx_nI (by omega), zx_nI (by omega), e, ← nI_succ, ih (i + 1) (by omega)]
  have h1 := h 675 0 (by omega)
  rw [zfw_0, nI_0] at h1
  exact h1
theorem p_undo {c : Nat} (hI : Inv c I) : Call X c I 110 [.ref 1] 182 [.ref 160, .null] := by
  have hend := inv_q hI cQ_rf (mQ_th (v := 0))
  obtain ⟨-, ⟨u, x, G, h1, h2, h3, h5, h6, h7⟩, hl, hp⟩ := hI
  by_cases h0 : u = 0
  · subst h0
    refine ⟨-5, I, zs1 I 160 0 0, ?_, ?_, hend⟩
    · rw [k110_0, if_neg (by rw [h5]; decide), k110_10]
    · rw [k182_0, th_160 (by decide), if_neg (by rw [h3]; decide), k182_12]
  · have hne : ¬ nI u = 0 := fun z => h0 ((nI_inj (b := 0) (by omega) (by decide)).mp z)
    obtain ⟨J, e1, e2, e3, e4, e5⟩ := c2 (X := X) (I := I) h2 h1 (by omega) h6 h5
    have hJ : ∀ t, 160 ≤ t → J t = I t := fun t ht => e2 t (by omega) (by omega)
    have hs : nI u - 1 = nI (u - 1) := zI_sub (b := 1) (by omega)
    have hm := m182l (X := X) (I := zs1 (zs1 J 160 0 0) 160 4 (nI (u - 1))) (u := u - 1) (by omega) (by rw [zs1_self, upd_at, if_pos rfl])
    have n163 : zs1 (zs1 J 160 0 0) 160 4 (nI (u - 1)) 163 = I 163 := by rw [zs1_ne (by decide), zs1_ne (by decide), hJ _ (by decide)]
    have n160 : ∀ k, k ≠ 0 → k ≠ 4 → zs1 (zs1 J 160 0 0) 160 4 (nI (u - 1)) 160 k = I 160 k := fun k k0 k4 => by rw [zs1_self, upd_at, if_neg k4, zs1_self, upd_at, if_neg k0, hJ _ (by decide)]
    refine ⟨nI (u - 1), J, zfw (zs1 (zs1 J 160 0 0) 160 4 (nI (u - 1))) 161 0 (fun k => zs1 (zs1 J 160 0 0) 160 4 (nI (u - 1)) 163 (675 * (u - 1) + k)) 675, ?_, ?_, ?_⟩
    · rw [k110_0, if_pos (by rw [h5]; exact hne), k110_13, e1, zcb_some, zn_nil, k110_24, e4]
    · rw [k182_0, th_160 (by decide), hJ 160 (by decide), if_pos (by rw [h3]; exact hne), k182_15, th_160 (by decide), hJ 160 (by decide), h3, hs]
      exact hm
    · have hlo : ∀ t, t ≠ 161 → t ≠ 160 → zfw (zs1 (zs1 J 160 0 0) 160 4 (nI (u - 1))) 161 0 (fun k => zs1 (zs1 J 160 0 0) 160 4 (nI (u - 1)) 163 (675 * (u - 1) + k)) 675 t = J t := fun t t1 t2 => by rw [zfw_ne t1, zs1_ne t2, zs1_ne t2]
      have hlI : ∀ t, t ≠ 17 → ¬ (2 < t ∧ t < 17) → t ≠ 161 → t ≠ 160 → zfw (zs1 (zs1 J 160 0 0) 160 4 (nI (u - 1))) 161 0 (fun k => zs1 (zs1 J 160 0 0) 160 4 (nI (u - 1)) 163 (675 * (u - 1) + k)) 675 t = I t := fun t t1 t2 t3 t4 => (hlo t t3 t4).trans (e2 t t1 t2)
      have h160 : ∀ k, zfw (zs1 (zs1 J 160 0 0) 160 4 (nI (u - 1))) 161 0 (fun k => zs1 (zs1 J 160 0 0) 160 4 (nI (u - 1)) 163 (675 * (u - 1) + k)) 675 160 k = zs1 (zs1 J 160 0 0) 160 4 (nI (u - 1)) 160 k := fun k => by rw [zfw_ne (by decide)]
      obtain ⟨g1, g2, g3⟩ := h7 (u - 1) (by omega)
      rw [show (x + 6 - u + (u - 1)) % 6 = (x + 5) % 6 by omega] at g1
      have hz : zEq (G (u - 1)) (zfw (zs1 (zs1 J 160 0 0) 160 4 (nI (u - 1))) 161 0 (fun k => zs1 (zs1 J 160 0 0) 160 4 (nI (u - 1)) 163 (675 * (u - 1) + k)) 675 161) := by
        intro k hk
        rw [zfw_eq k hk, n163]
        exact (g3 k hk).symm
      refine ⟨⟨hR_cells (fun t t1 t2 => hlo t (by omega) (by omega)) (hR_eq hz g2 (hR_cp e5 g2 g1)), wS_le (wS_eq hz g2) (Nat.le_succ c)⟩, ?_, iL_keep (Nat.le_succ c) (hlI _ (by decide) (by decide) (by decide) (by decide)) (hlI _ (by decide) (by decide) (by decide) (by decide)) (fun t t1 t2 => hlI t (by omega) (by omega) (by omega) (by omega)) (hlI _ (by decide) (by decide) (by decide) (by decide)) hl, iP_keep (by rw [hlI _ (by decide) (by decide) (by decide) (by decide)]) (by rw [h160, n160 8 (by decide) (by decide)]) (hlI _ (by decide) (by decide) (by decide) (by decide)) (hlI _ (by decide) (by decide) (by decide) (by decide)) hp⟩
      refine ⟨u - 1, (x + 5) % 6, G, by omega, Nat.mod_lt _ (by decide), ?_, ?_, ?_, fun j hj => ?_⟩
      · rw [h160, zs1_self, upd_at, if_pos rfl]
      · rw [hlo _ (by decide) (by decide)]
        exact e4
      · rw [hlo _ (by decide) (by decide)]
        exact e3
      · obtain ⟨a1, a2, a3⟩ := h7 j (by omega)
        rw [show ((x + 5) % 6 + 6 - (u - 1) + j) % 6 = (x + 6 - u + j) % 6 by omega]
        have hm : (x + 6 - u + j) % 6 < 6 := Nat.mod_lt _ (by decide)
        refine ⟨hR_cells (fun t t1 t2 => hlI t (by omega) (by omega) (by omega) (by omega)) a1, wS_le a2 (Nat.le_succ c), fun k hk => ?_⟩
        rw [hlI _ (by decide) (by decide) (by decide) (by decide)]
        exact a3 k hk
theorem c62n {v : Int32} (h : v < 0 ∨ nI 2 ≤ v) : zr X 62 0 [.int v] [] (zk I) = some (some (.int 0), zk I) := by
  rw [k62_0]
  by_cases h1 : v < 0
  · rw [if_pos h1, k62_13]
  · rw [if_neg h1, k62_4, if_pos (show (2 : Int32) ≤ v from h.resolve_left h1), k62_13]
theorem c62y {j : Nat} (h : j < 2) : zr X 62 0 [.int (nI j)] [] (zk I) = some (some (.int 1), zk I) := by
  rw [k62_0, if_neg (nI_pos (by omega)), k62_4, if_neg (show ¬ (2 : Int32) ≤ nI j from nI_ge (b := 2) h (by decide)), k62_9]
theorem m183l {j : Nat} (hj : j < 2) : zr X 183 19 [.ref 160, .int (nI j), .int 0] [] (zk I) = zr X 183 50 [.ref 160, .int (nI j), .int (nI 675)] [] (zk (zfw I 164 (675 * j) (I 161) 675)) := by
  have h : ∀ k i, i + k = 675 → zr X 183 19 [.ref 160, .int (nI j), .int (nI i)] [] (zk (zfw I 164 (675 * j) (I 161) i)) = zr X 183 50 [.ref 160, .int (nI j), .int (nI 675)] [] (zk (zfw I 164 (675 * j) (I 161) 675)) := by
    intro k
    induction k with
    | zero =>
      intro i hi
      have e : i = 675 := by omega
      subst e
      rw [k183_19, if_pos (by decide)]
    | succ k ih =>
      intro i hi
      rw [k183_19, if_neg (show ¬ (675 : Int32) ≤ nI i from nI_ge (b := 675) (by omega) (by decide)), k183_26 (zin_nI (by omega) (by decide)) (by rw [z675]; exact zin_nI (by omega) (by decide)), zfw_ne (t := 161) (by decide), z675, zx_nI (by omega), zx_nI (by omega), zfw_succ, ← nI_succ, ih (i + 1) (by omega)]
  have h1 := h 675 0 (by omega)
  rw [zfw_0, nI_0] at h1
  exact h1
theorem p_save {c : Nat} (hI : Inv c I) (v : Int32) : Call X c I 111 [.ref 1, .int v] 183 [.ref 160, .int v, .null] := by
  have hend := inv_q hI cQ_rf (mQ_th (v := 0))
  rcases mk_cases (n := 2) (by omega) v with hb | ⟨j, hj, rfl⟩
  · refine ⟨-2, I, zs1 I 160 0 0, ?_, ?_, hend⟩
    · rw [k111_0, c62n hb, zcb_some, zn_one, k111_4, if_neg (by decide), k111_7]
    · rw [k183_0, show (1 : Int32) = nI 1 from rfl, m116n (by decide) (hb.imp id (fun z => Int32.lt_of_lt_of_le (show nI 1 < nI 2 by decide) z)), zcb_some, zn_one, k183_11, if_neg (by decide), k183_14]
  · obtain ⟨s1, s2⟩ := slot_base hj
    obtain ⟨R, e1, e2, e3⟩ := c51 (X := X) (I := I) s2 (by omega)
    have hb := inv_b hI
    obtain ⟨⟨n1, n2⟩, hh, hl, hp⟩ := hI
    obtain ⟨t, n, hk, ht, hs, hv⟩ := hb
    have ez : zx (nI j) = j := zx_nI (by omega)
    have hz := zin_nI hj (show (2 : Nat) < 2 ^ 31 by decide)
    have hJ1 : ∀ t, t ≠ 111 → ¬ (112 + 15 * j < t ∧ t < 127 + 15 * j) → zs1 R 111 j 1 t = I t := fun t t1 t2 => (zs1_ne t1).trans (e2 t (by omega))
    have n161 : zs1 (zs1 R 111 j 1) 160 0 0 161 = I 161 := by rw [zs1_ne (by decide), hJ1 _ (by decide) (by omega)]
    refine ⟨nI n, zs1 R 111 j 1, zs1 (zfw (zs1 (zs1 R 111 j 1) 160 0 0) 164 (675 * j) (zs1 (zs1 R 111 j 1) 160 0 0 161) 675) 165 j 1, ?_, ?_, ?_⟩
    · rw [k111_0, c62y hj, zcb_some, zn_one, k111_4, if_pos (by decide), k111_10, k63_0 hz (by rw [ez, s1]; exact s2), ez, s1, e1, zcb_some, zn_nil, k63_10 hz, ez, zcb_some, zn_nil, k111_22, hJ1 5 (by decide) (by omega), hs]
    · rw [k183_0, show (1 : Int32) = nI 1 from rfl, m116y (by omega) (by decide), zcb_some, zn_one, k183_11, if_pos (by decide), k183_17, show (nI 1 : Int32) = 1 from rfl, m183l hj, k183_50 hz, ez, zfw_ne (t := 161) (by decide), n161, hk.2.2.2.1]
    · have hlo : ∀ t, t ≠ 165 → t ≠ 164 → t ≠ 160 → zs1 (zfw (zs1 (zs1 R 111 j 1) 160 0 0) 164 (675 * j) (zs1 (zs1 R 111 j 1) 160 0 0 161) 675) 165 j 1 t = zs1 R 111 j 1 t := fun t t1 t2 t3 => by rw [zs1_ne t1, zfw_ne t2, zs1_ne t3]
      have hlI : ∀ t, t ≠ 111 → ¬ (112 + 15 * j < t ∧ t < 127 + 15 * j) → t ≠ 165 → t ≠ 164 → t ≠ 160 → zs1 (zfw (zs1 (zs1 R 111 j 1) 160 0 0) 164 (675 * j) (zs1 (zs1 R 111 j 1) 160 0 0 161) 675) 165 j 1 t = I t := fun t t1 t2 t3 t4 t5 => (hlo t t3 t4 t5).trans (hJ1 t t1 t2)
      have h160 : ∀ k, k ≠ 0 → zs1 (zfw (zs1 (zs1 R 111 j 1) 160 0 0) 164 (675 * j) (zs1 (zs1 R 111 j 1) 160 0 0 161) 675) 165 j 1 160 k = I 160 k := fun k k0 => by rw [zs1_ne (by decide), zfw_ne (by decide), zs1_self, upd_at, if_neg k0, hJ1 _ (by decide) (by omega)]
      refine ⟨⟨?_, ?_⟩, iH_keep (Nat.le_succ c) (hlI _ (by decide) (by omega) (by decide) (by decide) (by decide)) (fun t t1 t2 => hlI t (by omega) (by omega) (by omega) (by omega) (by omega)) (h160 _ (by decide)) (hlI _ (by decide) (by omega) (by decide) (by decide) (by decide)) hh, fun i hi => ?_, iP_keep (by rw [hlI _ (by decide) (by omega) (by decide) (by decide) (by decide)]) (h160 _ (by decide)) (hlI _ (by decide) (by omega) (by decide) (by decide) (by decide)) (hlI _ (by decide) (by omega) (by decide) (by decide) (by decide)) hp⟩
      · rw [hlI 161 (by decide) (by omega) (by decide) (by decide) (by decide)]
        exact hR_cells (fun t t1 t2 => hlI t (by omega) (by omega) (by omega) (by omega) (by omega)) n1
      · rw [hlI 161 (by decide) (by omega) (by decide) (by decide) (by decide)]
        exact wS_le n2 (Nat.le_succ c)
      · obtain ⟨a1, a2⟩ := hl i hi
        rw [hlo 111 (by decide) (by decide) (by decide), zs1_self, zs1_self, zfw_ne (t := 165) (by decide), show zs1 (zs1 R 111 j 1) 160 0 0 165 = I 165 from (zs1_ne (by decide)).trans (hJ1 165 (by decide) (by omega)), e2 111 (by omega), upd_at, upd_at]
        by_cases hij : i = j
        · subst hij
          rw [if_pos rfl, if_pos rfl]
          refine ⟨rfl, fun _ => ⟨I 161, hR_cells (fun t t1 t2 => ?_) (hR_cp e3 n2 n1), wS_le n2 (Nat.le_succ c), fun k hk => ?_⟩⟩
          · rw [hlo t (by omega) (by omega) (by omega), zs1_ne (by omega)]
          · rw [zs1_ne (by decide), zfw_self, if_pos (by omega), n161]
            congr 1
            omega
        · rw [if_neg hij, if_neg hij]
          refine ⟨a1, fun hne => ?_⟩
          obtain ⟨G, g1, g2, g3⟩ := a2 hne
          refine ⟨G, hR_cells (fun t t1 t2 => hlI t (by omega) (by omega) (by omega) (by omega) (by omega)) g1, wS_le g2 (Nat.le_succ c), fun k hk => ?_⟩
          rw [zs1_ne (by decide), zfw_self, if_neg (by omega), zs1_ne (by decide), hJ1 _ (by decide) (by omega)]
          exact g3 k hk
theorem m184l {j : Nat} (hj : j < 2) : zr X 184 35 [.ref 160, .int (nI j), .int 0] [] (zk I) = zr X 184 66 [.ref 160, .int (nI j), .int (nI 675)] [] (zk (zfw I 161 0 (fun k => I 164 (675 * j + k)) 675)) := by
  have h : ∀ k i, i + k = 675 → zr X 184 35 [.ref 160, .int (nI j), .int (nI i)] [] (zk (zfw I 161 0 (fun k => I 164 (675 * j + k)) i)) = zr X 184 66 [.ref 160, .int (nI j), .int (nI 675)] [] (zk (zfw I 161 0 (fun k => I 164 (675 * j + k)) 675)) := by
    intro k
    induction k with
    | zero =>
      intro i hi
      have e : i = 675 := by omega
      subst e
      rw [k184_35, if_pos (by decide)]
    | succ k ih =>
      intro i hi
      have e := zfw_succ (I := I) (d := 161) (off := 0) (k := i) (g := fun k => I 164 (675 * j + k))
      rw [Nat.zero_add] at e
      rw [k184_35, if_neg (show ¬ (675 : Int32) ≤ nI i from nI_ge (b := 675) (by omega) (by decide)), k184_42 (by rw [z675]; exact zin_nI (by omega) (by decide)) (zin_nI (by omega) (by decide)), zfw_ne (t := 164) (by decide), z675, zx_nI (by omega), zx_nI (by omega), e, ← nI_succ, ih (i + 1) (by omega)]
  have h1 := h 675 0 (by omega)
  rw [zfw_0, nI_0] at h1
  exact h1
theorem p_restore {c : Nat} (hI : Inv c I) (v : Int32) : Call X c I 112 [.ref 1, .int v] 184 [.ref 160, .int v, .null] := by
  have hend := inv_q hI cQ_rf (mQ_th (v := 0))
  rcases mk_cases (n := 2) (by omega) v with hb | ⟨j, hj, rfl⟩
  · refine ⟨-2, I, zs1 I 160 0 0, ?_, ?_, hend⟩
    · rw [k112_0, c62n hb, zcb_some, zn_one, k112_4, if_neg (by decide), k112_7]
    · rw [k184_0, show (1 : Int32) = nI 1 from rfl, m116n (by decide) (hb.imp id (fun z => Int32.lt_of_lt_of_le (show nI 1 < nI 2 by decide) z)), zcb_some, zn_one, k184_11, if_neg (by decide), k184_14]
  · obtain ⟨s1, s2⟩ := slot_base hj
    have ez : zx (nI j) = j := zx_nI (by omega)
    have hz := zin_nI hj (show (2 : Nat) < 2 ^ 31 by decide)
    obtain ⟨l1, l2⟩ := hI.2.2.1 j hj
    by_cases h0 : I 111 j = 0
    · refine ⟨-5, I, zs1 I 160 0 0, ?_, ?_, hend⟩
      · rw [k112_0, c62y hj, zcb_some, zn_one, k112_4, if_pos (by decide), k112_10 hz, ez, if_neg (fun z => z h0), k112_22]
      · rw [k184_0, show (1 : Int32) = nI 1 from rfl, m116y (by omega) (by decide), zcb_some, zn_one, k184_11, if_pos (by decide), k184_17 hz, ez, zs1_ne (by decide), ← l1, if_neg (fun z => z h0), k184_26]
    · obtain ⟨G, g1, g2, g3⟩ := l2 h0
      obtain ⟨⟨gt, gn, gk⟩, -, -⟩ := id g2
      obtain ⟨R, r1, r2, r3⟩ := c1x (X := X) hI.2.1
      obtain ⟨J1, e1, e2, e3⟩ := c51b (X := X) (I := R) s2 (by omega)
      have hJ : ∀ t, 109 ≤ t → J1 t = I t := fun t ht => (e2 t (by omega)).trans (r2 t (by omega) (by omega))
      obtain ⟨K, k1, k2, k3, k4⟩ := m121y (X := X) hI.2.1 (I1 := zs1 J1 160 0 0) (by rw [zs1_self, upd_at, if_neg (by decide), hJ _ (by decide)])
      have k164 : K 164 = I 164 := (k2 164 (by decide) (by decide)).trans ((zs1_ne (by decide)).trans (hJ _ (by decide)))
      have hgR : hR R (112 + 15 * j) G := hR_cells (fun t t1 t2 => r2 t (by omega) (by omega)) g1
      have hgJ := hR_cp e3 g2 hgR
      have hze : zEq G (zfw K 161 0 (fun k => K 164 (675 * j + k)) 675 161) := by
        intro k hk
        rw [zfw_eq k hk, k164]
        exact (g3 k hk).symm
      refine ⟨nI gn, J1, zfw K 161 0 (fun k => K 164 (675 * j + k)) 675, ?_, ?_, inv_chg (S' := zfw K 161 0 (fun k => K 164 (675 * j + k)) 675 161) (K := K) hI r3 r2 (fun t t1 t2 => e2 t (by omega)) ?_ (fun t t1 t2 => (k2 t t1 t2).trans (zs1_ne t1)) ?_ (fun t t1 t2 => zfw_ne t1) ?_ ?_ rfl (hR_eq hze g2 hgJ) (wS_le (wS_eq hze g2) (Nat.le_succ c))⟩
      · rw [k112_0, c62y hj, zcb_some, zn_one, k112_4, if_pos (by decide), k112_10 hz, ez, if_pos h0, k112_25, r1, zcb_some, zn_nil, k112_36 hz (by rw [ez, s1]; exact s2), ez, s1, e1, zcb_some, zn_nil, k112_52, show J1 5 7 = G 66 from hgJ.2.1.1, gk.2.2.2.1]
      · rw [k184_0, show (1 : Int32) = nI 1 from rfl, m116y (by omega) (by decide), zcb_some, zn_one, k184_11, if_pos (by decide), k184_17 hz, ez, zs1_ne (by decide), hJ 165 (by decide), ← l1, if_pos h0, k184_29, k1, zcb_some, zn_nil, k184_33, m184l hj, k184_66, ← hze 66 (by decide), gk.2.2.2.1]
      · rw [zs1_ne (t := 160) (by decide), hJ 161 (by decide)] at k4
        exact k4
      · rw [k3 8 (by decide), zs1_self, upd_at, if_neg (by decide)]
      · rw [zfw_ne (by decide)]
      · rw [zfw_ne (by decide)]
end B4
