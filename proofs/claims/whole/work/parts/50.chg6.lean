/-! wash -/
def rr (m i : Nat) : Nat := if i < m then i else i + 1
theorem wMs_sel {t n n' : Nat} {V V' : Nat → Nat → Int32} (f : Nat → Nat) (hf : ∀ i, i < n' → f i < n) (hj : ∀ i j, i < n' → j < n' → i ≠ j → f i ≠ f j) (hv : ∀ i w, i < n' → w < 6 → V' w i = V w (f i)) (h : wMs t n V) : wMs t n' V' := by
  obtain ⟨h1, h2, h3⟩ := h
  have hs : ∀ i j, i < n' → j < n' → sC V' i j = sC V (f i) (f j) := by
    intro i j hi hj
    unfold sC
    rw [hv i 1 hi (by decide), hv i 2 hi (by decide), hv i 3 hi (by decide), hv j 1 hj (by decide), hv j 2 hj (by decide), hv j 3 hj (by decide)]
  refine ⟨fun i hi => ?_, fun i j hi hj' hij a b c => ?_, fun i j hi hj' hij a b => ?_⟩
  · obtain ⟨e, k, a, b, p, q, g0, g1, g2, g3, g4, g5, r⟩ := h1 (f i) (hf i hi)
    refine ⟨e, k, a, b, p, q, ?_, ?_, ?_, ?_, ?_, ?_, r⟩
    · rw [hv i 0 hi (by decide)]; exact g0
    · rw [hv i 1 hi (by decide)]; exact g1
    · rw [hv i 2 hi (by decide)]; exact g2
    · rw [hv i 3 hi (by decide)]; exact g3
    · rw [hv i 4 hi (by decide)]; exact g4
    · rw [hv i 5 hi (by decide)]; exact g5
  · rw [hs i j hi hj']
    refine h2 (f i) (f j) (hf i hi) (hf j hj') (hj i j hi hj' hij) ?_ ?_ ?_
    · rw [← hv i 0 hi (by decide), ← hv j 0 hj' (by decide)]; exact a
    · rw [← hv i 5 hi (by decide)]; exact b
    · rw [← hv j 5 hj' (by decide)]; exact c
  · rw [hs i j hi hj']
    refine h3 (f i) (f j) (hf i hi) (hf j hj') (hj i j hi hj' hij) ?_ ?_
    · rw [← hv i 5 hi (by decide)]; exact a
    · rw [← hv j 5 hj' (by decide)]; exact b
theorem sGs_drop {V V' : Nat → Nat → Int32} {m : Nat} {a : Int32} : ∀ n, m ≤ n → (∀ i w, i < n → w < 6 → V' w i = V w (rr m i)) → sGs V (n + 1) a = if V 5 m = 1 then sGs V' n a + sG V m else sGs V' n a
  | 0, hm, _ => by
    have e : m = 0 := by omega
    subst e
    rw [sGs_S]
    rfl
  | n + 1, hm, h => by
    rw [sGs_S]
    by_cases e : m = n + 1
    · subst e
      have hx : sGs V' (n + 1) a = sGs V (n + 1) a := sGs_at (fun i w hi hw => by rw [h i w hi hw]; unfold rr; rw [if_pos hi])
      rw [hx]
    · have ih := sGs_drop (V := V) (V' := V') (a := a) n (by omega) (fun i w hi hw => h i w (by omega) hw)
      have er : rr m n = n + 1 := by unfold rr; rw [if_neg (by omega)]
      have h5 : V' 5 n = V 5 (n + 1) := by rw [h n 5 (by omega) (by decide), er]
      have hG : sG V' n = sG V (n + 1) := by
        unfold sG
        rw [h n 4 (by omega) (by decide), h n 3 (by omega) (by decide), h n 2 (by omega) (by decide), er]
      rw [ih, sGs_S (V := V'), h5, hG]
      by_cases b : V 5 (n + 1) = 1
      · rw [if_pos b, if_pos b]
        by_cases d : V 5 m = 1
        · rw [if_pos d, if_pos d, Int32.add_assoc, Int32.add_assoc, Int32.add_comm (sG V m)]
        · rw [if_neg d, if_neg d]
      · rw [if_neg b, if_neg b]
def rDrop (n m : Nat) (S : Nat → Int32) (k : Nat) : Int32 := if k = 66 then nI (n - 1) else if 67 + 12 * m ≤ k ∧ k < 67 + 12 * (n - 1) then S (k + 12) else if 67 + 12 * (n - 1) ≤ k ∧ k < 67 + 12 * n then 0 else S k
theorem rDrop_at {n m w i : Nat} {S : Nat → Int32} (hw : w < 12) (hi : i < n - 1) : vR (rDrop n m S) w i = vR S w (rr m i) := by
  unfold vR rDrop rr
  rw [if_neg (by omega)]
  by_cases a : i < m
  · rw [if_neg (by omega), if_neg (by omega), if_pos a]
  · rw [if_pos (by omega), if_neg a]
    congr 1
    omega
theorem rDrop_out {n m k : Nat} {S : Nat → Int32} (hm : m < n) (h : k < 66 ∨ 67 + 12 * n ≤ k) : rDrop n m S k = S k := by
  unfold rDrop
  rw [if_neg (by omega), if_neg (by omega), if_neg (by omega)]
section B6
variable {X : Nat × (Nat → Int32)} {I : Nat → Nat → Int32}
/-- drops -/
theorem m149 {n m : Nat} (hn : n ≤ 20) (hm : m < n) (hs : I 161 66 = nI n) : zr X 149 0 [.ref 160, .int (nI m), .null] [] (zk I) = some (none, zk (zup I 161 (rDrop n m (I 161)))) := by
  have e12 : (12 : Int32) * nI m = nI (12 * m) := by rw [zI_mul]; rfl
  have es : nI n - 1 = nI (n - 1) := zI_sub (b := 1) (by omega)
  rw [k149_0, hs, es, e12, zs1_up]
  have en : (12 : Int32) * nI (n - 1) = nI (12 * (n - 1)) := by rw [zI_mul]; rfl
  have hl : ∀ k i (F : Nat → Int32), i + k = 12 * (n - 1) → 12 * m ≤ i → F 66 = nI (n - 1) → (∀ q, q ≠ 66 → F q = if 67 + 12 * m ≤ q ∧ q < 67 + i then I 161 (q + 12) else I 161 q) → zr X 149 16 [.ref 160, .int (nI m), .int (nI i)] [] (zk (zup I 161 F)) = some (none, zk (zup I 161 (rDrop n m (I 161)))) := by
    intro k
    induction k with
    | zero =>
      intro i F hi hmi h66 hF
      have e : i = 12 * (n - 1) := by omega
      rw [k149_16, zup_self, h66, en, if_pos (nI_le (by omega) (by omega)), k149_57, zup_self, h66, m139 (by omega), zcb_some, zn_nil, k149_68]
      have ef : zfw (zup I 161 F) 161 (67 + 12 * (n - 1)) (fun _ => 0) 12 = zup I 161 (rDrop n m (I 161)) := by
        unfold zfw
        rw [zup_zup]
        congr 1
        funext q
        rw [zup_self]
        unfold rDrop
        by_cases q66 : q = 66
        · rw [if_pos q66, if_neg (by omega), q66, h66]
        · rw [if_neg q66, hF q q66, e]
          by_cases b : 67 + 12 * m ≤ q ∧ q < 67 + 12 * (n - 1)
          · rw [if_pos b, if_pos b, if_neg (by omega)]
          · rw [if_neg b, if_neg b]
            by_cases d : 67 + 12 * (n - 1) ≤ q ∧ q < 67 + 12 * (n - 1) + 12
            · rw [if_pos d, if_pos (by omega)]
            · rw [if_neg d, if_neg (by omega)]
      rw [ef]
    | succ k ih =>
      intro i F hi hmi h66 hF
      have e1 : (67 : Int32) + nI i = nI (67 + i) := by rw [zI_add]; rfl
      have e2 : nI (67 + i) + 12 = nI (67 + i + 12) := (zI_add (67 + i) 12).symm
      rw [k149_16, zup_self, h66, en, if_neg (nI_ge (by omega) (by omega)), k149_30 (by rw [e1, e2]; exact zin_nI (by omega) (by decide)) (by rw [e1]; exact zin_nI (by omega) (by decide)), e1, e2, zx_nI (by omega), zx_nI (by omega), zup_self, hF (67 + i + 12) (by omega), if_neg (by omega), zs1_zup, ← nI_succ]
      refine ih (i + 1) _ (by omega) (by omega) ?_ (fun q q66 => ?_)
      · rw [upd_at, if_neg (by omega)]
        exact h66
      · rw [upd_at]
        by_cases qi : q = 67 + i
        · rw [if_pos qi, if_pos (by omega), qi]
        · rw [if_neg qi, hF q q66]
          by_cases b : 67 + 12 * m ≤ q ∧ q < 67 + i
          · rw [if_pos b, if_pos (by omega)]
          · rw [if_neg b, if_neg (by omega)]
  refine hl (12 * (n - 1) - 12 * m) (12 * m) _ (by omega) (Nat.le_refl _) (by rw [upd_at, if_pos rfl]) (fun q q66 => ?_)
  rw [upd_at, if_neg q66, if_neg (by omega)]
/-- copyRow, and what is read of a table behind it -/
def cRow (I J K : Nat → Nat → Int32) (c i j : Nat) : Prop := (∀ t, t < 6 ∨ 12 < t → J t = I t) ∧ (∀ r w, w < 6 → vC J 6 w r = if r = j then vC K c w i else vC I 6 w r) ∧ ∀ r k, k < 6 → J 12 (6 * r + k) = if r = j then K (c + 6) (6 * i + k) else I 12 (6 * r + k)
theorem nI_6 (i : Nat) : nI i * 6 = nI (6 * i) := by
  rw [Nat.mul_comm, zI_mul]
  rfl
theorem c10 {i j : Nat} (hi : i < 20) (hj : j < 20) : ∃ J, zr X 10 0 [.ref 5, .ref 5, .int (nI i), .int (nI j)] [] (zk I) = some (none, zk J) ∧ cRow I J I 6 i j := by
  have ei : zx (nI i) = i := zx_nI (by omega)
  have ej : zx (nI j) = j := zx_nI (by omega)
  have e1 : zx (nI i * 6) = 6 * i := by rw [nI_6]; exact zx_nI (by omega)
  have e2 : zx (nI j * 6) = 6 * j := by rw [nI_6]; exact zx_nI (by omega)
  rw [k10_0 (zin_nI hi (by decide)) (zin_nI hj (by decide)) (by rw [nI_6]; exact nI_pos (by omega)) (by rw [nI_6]; exact nI_pos (by omega)) (by rw [e1]; omega) (by rw [e2]; omega), ei, ej, e1, e2]
  refine ⟨_, rfl, fun t ht => ?_, fun r w hw => ?_, fun r k hk => ?_⟩
  · simp (disch := omega) only [zs1_ne, zs2_ne]
  · have hw5 : w = 0 ∨ w = 1 ∨ w = 2 ∨ w = 3 ∨ w = 4 ∨ w = 5 := by omega
    rcases hw5 with rfl | rfl | rfl | rfl | rfl | rfl <;> (unfold vC; simp (disch := omega) only [zs1_ne, zs2_ne, zs1_self, upd_at, Nat.reduceAdd])
  · rw [zs2_self, cpy_at]
    simp (disch := omega) only [zs1_ne]
    by_cases h : r = j
    · rw [if_pos (by omega), if_pos h]
      congr 1
      omega
    · rw [if_neg (by omega), if_neg h]
theorem c10b {i j : Nat} (hi : i < 20) (hj : j < 20) : ∃ J, zr X 10 0 [.ref 5, .ref 145, .int (nI i), .int (nI j)] [] (zk I) = some (none, zk J) ∧ cRow I J I 146 i j := by
  have ei : zx (nI i) = i := zx_nI (by omega)
  have ej : zx (nI j) = j := zx_nI (by omega)
  have e1 : zx (nI i * 6) = 6 * i := by rw [nI_6]; exact zx_nI (by omega)
  have e2 : zx (nI j * 6) = 6 * j := by rw [nI_6]; exact zx_nI (by omega)
  rw [k10b_0 (zin_nI hi (by decide)) (zin_nI hj (by decide)) (by rw [nI_6]; exact nI_pos (by omega)) (by rw [nI_6]; exact nI_pos (by omega)) (by rw [e1]; omega) (by rw [e2]; omega), ei, ej, e1, e2]
  refine ⟨_, rfl, fun t ht => ?_, fun r w hw => ?_, fun r k hk => ?_⟩
  · simp (disch := omega) only [zs1_ne, zs2_ne]
  · have hw5 : w = 0 ∨ w = 1 ∨ w = 2 ∨ w = 3 ∨ w = 4 ∨ w = 5 := by omega
    rcases hw5 with rfl | rfl | rfl | rfl | rfl | rfl <;> (unfold vC; simp (disch := omega) only [zs1_ne, zs2_ne, zs1_self, upd_at, Nat.reduceAdd])
  · rw [zs2_self, cpy_at]
    simp (disch := omega) only [zs1_ne]
    by_cases h : r = j
    · rw [if_pos (by omega), if_pos h]
      congr 1
      omega
    · rw [if_neg (by omega), if_neg h]
/-- remove -/
theorem c9 {n m : Nat} (hn : n ≤ 20) (hm : m < n) (hs : I 5 7 = nI n) : ∃ J, zr X 9 0 [.ref 5, .int (nI m), .null] [] (zk I) = some (none, zk J) ∧ J 5 7 = nI (n - 1) ∧ (∀ t, t < 5 ∨ 12 < t → J t = I t) ∧ (∀ r w, r < n - 1 → w < 6 → vC J 6 w r = vC I 6 w (rr m r)) ∧ ∀ r k, r < n - 1 → k < 6 → J 12 (6 * r + k) = I 12 (6 * rr m r + k) := by
  rw [k9_0, ← nI_succ]
  have hl : ∀ k i (K : Nat → Nat → Int32), i + k = n → m < i → (∀ t, t < 6 ∨ 12 < t → K t = I t) → (∀ r w, w < 6 → vC K 6 w r = if m ≤ r ∧ r + 1 < i then vC I 6 w (r + 1) else vC I 6 w r) → (∀ r k, k < 6 → K 12 (6 * r + k) = if m ≤ r ∧ r + 1 < i then I 12 (6 * (r + 1) + k) else I 12 (6 * r + k)) →
      ∃ J, zr X 9 4 [.ref 5, .int (nI m), .int (nI i)] [] (zk K) = some (none, zk J) ∧ J 5 7 = nI (n - 1) ∧ (∀ t, t < 5 ∨ 12 < t → J t = I t) ∧ (∀ r w, r < n - 1 → w < 6 → vC J 6 w r = vC I 6 w (rr m r)) ∧ ∀ r k, r < n - 1 → k < 6 → J 12 (6 * r + k) = I 12 (6 * rr m r + k) := by
    intro k
    induction k with
    | zero =>
      intro i K hi hmi h1 h2 h3
      have e : i = n := by omega
      subst e
      have hK : K 5 7 = nI i := by rw [h1 5 (by decide)]; exact hs
      refine ⟨zs1 K 5 7 (nI (i - 1)), ?_, ?_, fun t ht => ?_, fun r w hr hw => ?_, fun r k hr hk => ?_⟩
      · rw [k9_4, hK, if_pos (nI_le (Nat.le_refl _) (by omega)), k9_27, hK, show nI i - 1 = nI (i - 1) from zI_sub (b := 1) (by omega)]
      · rw [zs1_self, upd_at, if_pos rfl]
      · rw [zs1_ne (by omega)]
        exact h1 t (by omega)
      · have e5 : vC (zs1 K 5 7 (nI (i - 1))) 6 w r = vC K 6 w r := by
          have hw5 : w = 0 ∨ w = 1 ∨ w = 2 ∨ w = 3 ∨ w = 4 ∨ w = 5 := by omega
          rcases hw5 with rfl | rfl | rfl | rfl | rfl | rfl <;> exact congrFun (zs1_ne (by decide)) r
        rw [e5, h2 r w hw]
        unfold rr
        by_cases a : r < m
        · rw [if_neg (by omega), if_pos a]
        · rw [if_pos (by omega), if_neg a]
      · rw [zs1_ne (by decide), h3 r k hk]
        unfold rr
        by_cases a : r < m
        · rw [if_neg (by omega), if_pos a]
        · rw [if_pos (by omega), if_neg a]
    | succ k ih =>
      intro i K hi hmi h1 h2 h3
      have hK : K 5 7 = nI n := by rw [h1 5 (by decide)]; exact hs
      obtain ⟨J, j1, j2, j3, j4⟩ := c10 (X := X) (I := K) (show i < 20 by omega) (show i - 1 < 20 by omega)
      have es : nI i - 1 = nI (i - 1) := zI_sub (b := 1) (by omega)
      rw [k9_4, hK, if_neg (nI_ge (show i < n by omega) (by omega)), k9_12, es, j1, zcb_some, zn_nil, k9_21, ← nI_succ]
      refine ih (i + 1) J (by omega) (by omega) (fun t ht => (j2 t ht).trans (h1 t ht)) (fun r w hw => ?_) (fun r q hq => ?_)
      · rw [j3 r w hw]
        by_cases a : r = i - 1
        · rw [if_pos a, h2 i w hw, if_neg (by omega), if_pos (by omega), show r + 1 = i by omega]
        · rw [if_neg a, h2 r w hw]
          by_cases b : m ≤ r ∧ r + 1 < i
          · rw [if_pos b, if_pos (by omega)]
          · rw [if_neg b, if_neg (by omega)]
      · rw [j4 r q hq]
        by_cases a : r = i - 1
        · rw [if_pos a, h3 i q hq, if_neg (by omega), if_pos (by omega), show r + 1 = i by omega]
        · rw [if_neg a, h3 r q hq]
          by_cases b : m ≤ r ∧ r + 1 < i
          · rw [if_pos b, if_pos (by omega)]
          · rw [if_neg b, if_neg (by omega)]
  refine hl (n - (m + 1)) (m + 1) I (by omega) (by omega) (fun _ _ => rfl) (fun r w hw => ?_) (fun r k hk => ?_)
  · rw [if_neg (by omega)]
  · rw [if_neg (by omega)]
/-- marks that were chosen out of those that there were -/
theorem hK_sel {J : Nat → Nat → Int32} {n n' : Nat} {S S' : Nat → Int32} (f : Nat → Nat) (hf : ∀ i, i < n' → f i < n) (hn : zx (S 66) = n) (hn' : zx (S' 66) = n') (h5 : J 5 7 = S' 66) (hv : ∀ i w, i < n' → w < 12 → vR S' w i = vR S w (f i)) (hc : ∀ i w, i < n' → w < 6 → vC J 6 w i = vC I 6 w (f i)) (hl : ∀ i k, i < n' → k < 6 → J 12 (6 * i + k) = I 12 (6 * f i + k)) (hp : ∀ i, i < n → zx (vR S 4 i) ≤ 6) (h : hK I 2 S) : hK J 2 S' := by
  obtain ⟨b1, b2, b3⟩ := h
  refine ⟨h5, fun i w hi hw => ?_, fun i k hi hk => ?_⟩
  · rw [hn'] at hi
    rw [hv i w hi (by omega)]
    exact (hc i w hi hw).trans (b2 (f i) w (by rw [hn]; exact hf i hi) hw)
  · rw [hn'] at hi
    rw [hv i 4 hi (by decide)] at hk
    have := hp (f i) (hf i hi)
    rw [hv i (6 + k) hi (by omega)]
    exact (hl i k hi (by omega)).trans (b3 (f i) k (by rw [hn]; exact hf i hi) hk)
/-- wash -/
theorem p_wash {c : Nat} (hI : Inv c I) (v : Int32) : Call X c I 94 [.ref 1, .int v] 150 [.ref 160, .int v] := by
  obtain ⟨t, n, hk, ht, hs, hv⟩ := inv_b hI
  have hn : n ≤ 20 := hk.2.1
  have hS : I 161 66 = nI n := hk.2.2.2.1
  have hT : I 161 0 = nI t := hk.2.2.1
  have hS0 : zs1 I 160 0 0 161 66 = nI n := by rw [th_161]; exact hS
  have hend := inv_q hI cQ_rf (mQ_th (v := 0))
  rcases mk_cases (n := n) (by omega) v with hb | ⟨m, hm, rfl⟩
  · refine ⟨-1, I, zs1 I 160 0 0, ?_, ?_, hend⟩
    · rw [k94_0, c5n hn hs hb, zcb_some, zn_one, k94_11, if_neg (by decide), k94_14]
    · rw [k150_0, m119n hn hS0 hb, zcb_some, zn_one, k150_10, if_neg (by decide), k150_13]
  · have hm2 : m < 20 := by omega
    have e56 : (if vC I 6 5 m = 1 then sGs (vC I 6) n (I 3 1) - sG (vC I 6) m else sGs (vC I 6) n (I 3 1)) = if vR (I 161) 5 m = 1 then sGs (vR (I 161)) n (I 161 0) - sG (vR (I 161)) m else sGs (vR (I 161)) n (I 161 0) := by
      rw [hv m 5 hm (by decide), vEq_sGs hv, vEq_sG hv hm, ht, hT]
    by_cases a : (if vR (I 161) 5 m = 1 then sGs (vR (I 161)) n (I 161 0) - sG (vR (I 161)) m else sGs (vR (I 161)) n (I 161 0)) ≤ 60
    · obtain ⟨R, r1, r2, r3⟩ := c1x (X := X) hI.2.1
      have hRn : ∀ q, q ≤ 16 → R q = I q := fun q q1 => r2 q (by omega) (by omega)
      obtain ⟨Q, q1, q2, q3, q4, q5⟩ := c9 (X := X) (I := R) hn hm (by rw [hRn 5 (by decide)]; exact hs)
      have hJ : ∀ t, 109 ≤ t → Q t = I t := fun t ht => (q3 t (by omega)).trans (r2 t (by omega) (by omega))
      obtain ⟨K, k1, k2, k3, k4⟩ := m121y (X := X) hI.2.1 (I1 := zs1 Q 160 0 0) (by rw [th_160 (by decide), hJ _ (by decide)])
      have k161 : K 161 = I 161 := (k2 161 (by decide) (by decide)).trans ((zs1_ne (by decide)).trans (hJ _ (by decide)))
      have e66 : rDrop n m (I 161) 66 = nI (n - 1) := if_pos rfl
      have hvd : ∀ i w, i < n - 1 → w < 12 → vR (rDrop n m (I 161)) w i = vR (I 161) w (rr m i) := fun i w hi hw => rDrop_at hw hi
      have hrr : ∀ i, i < n - 1 → rr m i < n := fun i hi => by unfold rr; split <;> omega
      have hinj : ∀ i j, i < n - 1 → j < n - 1 → i ≠ j → rr m i ≠ rr m j := fun i j hi hj hij => by unfold rr; split <;> split <;> omega
      have hout : ∀ k, k < 66 ∨ 307 ≤ k → rDrop n m (I 161) k = I 161 k := fun k hk => rDrop_out hm (by omega)
      have hvc : ∀ i w, i < n - 1 → w < 6 → vC Q 6 w i = vC I 6 w (rr m i) := by
        intro i w hi hw
        rw [q4 i w hi hw]
        have hw5 : w = 0 ∨ w = 1 ∨ w = 2 ∨ w = 3 ∨ w = 4 ∨ w = 5 := by omega
        rcases hw5 with rfl | rfl | rfl | rfl | rfl | rfl <;> exact congrFun (hRn _ (by decide)) _
      have hmsz : zx (rDrop n m (I 161) 66) = n - 1 := by rw [e66]; exact zx_nI (by omega)
      have hQ3 : ∀ q, 13 ≤ q → q ≤ 16 → Q q = I q := fun q a1 a2 => (q3 q (by omega)).trans (hRn q a2)
      have hQ4 : ∀ q, q ≤ 4 → Q q = I q := fun q a2 => (q3 q (by omega)).trans (hRn q (by omega))
      refine ⟨nI (n - 1), Q, zup K 161 (rDrop n m (I 161)), ?_, ?_, inv_chg (S' := rDrop n m (I 161)) (K := K) hI r3 r2 (fun t t1 t2 => q3 t (by omega)) ?_ (fun t t1 t2 => (k2 t t1 t2).trans (zs1_ne t1)) ?_ (fun t t1 t2 => zup_ne t1) ?_ ?_ zup_self ?_ ?_⟩
      · rw [k94_0, c5y hn hs hm, zcb_some, zn_one, k94_11, if_pos (by decide), k94_16, c56 hn hs hm2, zcb_some, zn_one, k94_24, e56, if_pos a, k94_32, r1, zcb_some, zn_nil, k94_43, q1, zcb_some, zn_nil, k94_54, q2]
      · have hM : ∀ r, zr X 150 43 [.ref 160, .int (nI m)] [] (zk (zs1 Q 160 0 0)) = r → zr X 150 0 [.ref 160, .int (nI m)] [] (zk Q) = r := by
          intro r h
          have hS1 : zs1 Q 160 0 0 161 66 = nI n := by rw [zs1_ne (by decide), hJ _ (by decide)]; exact hS
          rw [k150_0, m119y hn hS1 hm, zcb_some, zn_one, k150_10, if_pos (by decide), k150_15, m117_5 (by omega), zcb_some, zn_one, k150_21, vM_th, vM_vR, hJ 161 (by decide)]
          by_cases b : vR (I 161) 5 m = 1
          · rw [if_pos b] at a
            rw [if_neg (fun z => z b), k150_25, m128 hn hS1, zcb_some, zn_one, k150_29, m127 (by omega), zcb_some, zn_one, k150_34, vM_th, vM_vR, th_161, hJ 161 (by decide), if_pos a, h]
          · rw [if_pos b, h]
        rw [hM _ rfl, k150_43, k1, zcb_some, zn_nil, k150_47, m149 hn hm (by rw [k161]; exact hS), zcb_some, zn_nil, k150_52, zup_self, k161, e66]
      · rw [zs1_ne (t := 160) (by decide), hJ 161 (by decide)] at k4
        exact k4
      · rw [k3 8 (by decide), th_160 (by decide)]
      · rw [zup_ne (by decide)]
      · rw [zup_ne (by decide)]
      · exact ⟨hT_c hk.1 hT (hQ4 3 (by decide)) (hQ4 4 (by decide)) (fun k hk => hout k (by omega)) hI.1.1.1, hK_sel (n' := n - 1) (rr m) hrr (wK_n hk) hmsz (q2.trans e66.symm) hvd hvc (fun i k hi hk => by rw [q5 i k hi hk, hRn 12 (by decide)]) (fun i hi => (wM_p (hk.2.2.2.2.1.1 i hi)).1) hI.1.1.2.1, hE_c (hQ3 16 (by decide) (by decide)) (fun k k1 k2 => hout k (by omega)) hI.1.1.2.2.1, hV_c hI.1.2.2.2 (hQ3 13 (by decide) (by decide)) (hQ3 14 (by decide) (by decide)) (hQ3 15 (by decide) (by decide)) (fun k k1 k2 => hout k (by omega)) hI.1.1.2.2.2⟩
      · refine ⟨⟨t, n - 1, hk.1, by omega, (hout 0 (by decide)).trans hT, e66, wMs_sel (rr m) hrr hinj (fun i w hi hw => hvd i w hi (by omega)) hk.2.2.2.2.1, ?_⟩, wE_c (fun k k1 k2 => hout k (by omega)) hI.1.2.2.1, wV_le (wV_c (fun k k1 k2 => hout k (by omega)) hI.1.2.2.2) (Nat.le_succ c)⟩
        rw [hout 0 (by decide)]
        have hd := sGs_drop (V := vR (I 161)) (V' := vR (rDrop n m (I 161))) (m := m) (a := I 161 0) (n - 1) (by omega) (fun i w hi hw => hvd i w hi (by omega))
        rw [show n - 1 + 1 = n by omega] at hd
        by_cases b : vR (I 161) 5 m = 1
        · rw [if_pos b] at hd a
          rw [hd, Int32.add_sub_cancel] at a
          exact Int32.not_lt.mpr a
        · rw [if_neg b] at hd a
          rw [← hd]
          exact Int32.not_lt.mpr a
    · have b : vR (I 161) 5 m = 1 := by
        apply Classical.byContradiction
        intro z
        rw [if_neg z] at a
        exact a (Int32.not_lt.mp hk.2.2.2.2.2)
      refine ⟨-5, I, zs1 I 160 0 0, ?_, ?_, hend⟩
      · rw [k94_0, c5y hn hs hm, zcb_some, zn_one, k94_11, if_pos (by decide), k94_16, c56 hn hs hm2, zcb_some, zn_one, k94_24, e56, if_neg a, k94_29]
      · rw [if_pos b] at a
        rw [k150_0, m119y hn hS0 hm, zcb_some, zn_one, k150_10, if_pos (by decide), k150_15, m117_5 (by omega), zcb_some, zn_one, k150_21, vM_th, vM_vR, if_neg (fun z => z b), k150_25, m128 hn hS0, zcb_some, zn_one, k150_29, m127 (by omega), zcb_some, zn_one, k150_34, vM_th, vM_vR, th_161, if_neg a, k150_40]
end B6
