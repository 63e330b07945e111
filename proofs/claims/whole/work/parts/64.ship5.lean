/-! the reference's carriesOver -/
def gS (S : Nat → Int32) (n q k : Nat) : Int32 := if 67 ≤ k ∧ (k - 67) / 12 < q then vS (vR S) n ((k - 67) % 12) ((k - 67) / 12) else S k
theorem gS_0 {S : Nat → Int32} {n : Nat} : gS S n 0 = S := by
  funext k
  exact if_neg (fun z => Nat.not_lt_zero _ z.2)
theorem gS_at {S : Nat → Int32} {n q w i : Nat} (hw : w < 12) : vR (gS S n q) w i = if i < q then vS (vR S) n w i else vR S w i := by
  unfold vR gS
  have e1 : (67 + 12 * i + w - 67) % 12 = w := by omega
  have e2 : (67 + 12 * i + w - 67) / 12 = i := by omega
  rw [e1, e2]
  by_cases h : i < q
  · rw [if_pos h, if_pos ⟨by omega, h⟩]
    rfl
  · rw [if_neg h, if_neg (fun z => h z.2)]
theorem gS_out {S : Nat → Int32} {n q k : Nat} (h : k < 67 ∨ 67 + 12 * q ≤ k) : gS S n q k = S k := if_neg (fun z => by omega)
theorem gS_no {S : Nat → Int32} {n q : Nat} (h : stay (vR S) n q = false) : gS S n (q + 1) = gS S n q := by
  funext k
  unfold gS
  by_cases a : 67 ≤ k ∧ (k - 67) / 12 < q
  · rw [if_pos a, if_pos ⟨a.1, by omega⟩]
  · rw [if_neg a]
    by_cases b : 67 ≤ k ∧ (k - 67) / 12 < q + 1
    · have e : (k - 67) / 12 = q := by omega
      rw [if_pos b, e, vS_no h]
      unfold vR
      congr 1
      omega
    · rw [if_neg b]
theorem gS_st {S : Nat → Int32} {n q : Nat} (h : stay (vR S) n q = true) : upd (upd (gS S n q) (67 + 12 * q + 2) (nI (nA (vR S) n q))) (67 + 12 * q + 3) (nI (nB (vR S) n q)) = gS S n (q + 1) := by
  funext k
  rw [upd_at, upd_at]
  unfold gS
  by_cases c : k = 67 + 12 * q + 3
  · have e : (k - 67) / 12 = q := by omega
    have e2 : (k - 67) % 12 = 3 := by omega
    rw [if_pos c, e, e2, if_pos ⟨by omega, Nat.lt_succ_self _⟩, vS_3 h]
  · rw [if_neg c]
    by_cases d : k = 67 + 12 * q + 2
    · have e : (k - 67) / 12 = q := by omega
      have e2 : (k - 67) % 12 = 2 := by omega
      rw [if_pos d, e, e2, if_pos ⟨by omega, Nat.lt_succ_self _⟩, vS_2 h]
    · rw [if_neg d]
      by_cases a : 67 ≤ k ∧ (k - 67) / 12 < q
      · rw [if_pos a, if_pos ⟨a.1, by omega⟩]
      · rw [if_neg a]
        by_cases b : 67 ≤ k ∧ (k - 67) / 12 < q + 1
        · have e : (k - 67) / 12 = q := by omega
          rw [if_pos b, e, vS_w (by omega) (by omega)]
          unfold vR
          congr 1
          omega
        · rw [if_neg b]
theorem gS_aEq {S : Nat → Int32} {n q : Nat} : aEq (vR S) (vR (gS S n q)) n := by
  intro i hi
  refine ⟨?_, fun h5 w hw => ?_⟩
  · rw [gS_at (by decide)]
    split
    · rw [vS_w (by decide) (by decide)]
    · exact Iff.rfl
  · rw [gS_at (by omega)]
    have hs : stay (vR S) n i = false := by unfold stay; rw [h5]; rfl
    split
    · exact vS_no hs
    · rfl
/-- the state, and which marks go -/
def zM2 (I : Nat → Nat → Int32) (R G : Nat → Int32) : Nat → Nat → Int32 := zup (zup I 161 R) 169 G
theorem zM2_a {I : Nat → Nat → Int32} {R G : Nat → Int32} : zM2 I R G 161 = R := by
  unfold zM2
  rw [zup_ne (by decide), zup_self]
theorem zM2_b {I : Nat → Nat → Int32} {R G : Nat → Int32} : zM2 I R G 169 = G := zup_self
theorem zM2_o {I : Nat → Nat → Int32} {R G : Nat → Int32} {t : Nat} (h : t ≠ 161) (h2 : t ≠ 169) : zM2 I R G t = I t := by
  unfold zM2
  rw [zup_ne h2, zup_ne h]
theorem zM2_sa {I : Nat → Nat → Int32} {R G : Nat → Int32} {k : Nat} {v : Int32} : zs1 (zM2 I R G) 161 k v = zM2 I (upd R k v) G := by
  unfold zM2
  rw [zup_comm (I := I) (by decide), zs1_zup, zup_comm (I := I) (by decide)]
theorem zM2_ua {I : Nat → Nat → Int32} {R G R' : Nat → Int32} : zup (zM2 I R G) 161 R' = zM2 I R' G := by
  unfold zM2
  rw [zup_comm (I := I) (by decide), zup_zup, zup_comm (I := I) (by decide)]
theorem zM2_sb {I : Nat → Nat → Int32} {R G : Nat → Int32} {k : Nat} {v : Int32} : zs1 (zM2 I R G) 169 k v = zM2 I R (upd G k v) := by
  unfold zM2
  rw [zs1_zup]
theorem zM2_id {I : Nat → Nat → Int32} : zM2 I (I 161) (I 169) = I := by
  unfold zM2
  rw [zup_id rfl, zup_id rfl]
theorem vM_M2 {I : Nat → Nat → Int32} {R G : Nat → Int32} : vM (zM2 I R G) = vR R := by
  rw [vM_vR, zM2_a]
section S5
variable {X : Nat × (Nat → Int32)} {I : Nat → Nat → Int32}
/-- which go for what they are -/
theorem m155a {n : Nat} {R G : Nat → Int32} (hn : n ≤ 20) (hs : R 66 = nI n) : ∃ G', zr X 155 0 [.ref 160, .null, .null, .null] [] (zk (zM2 I R G)) = zr X 155 50 [.ref 160, .int 0, .null, .null] [] (zk (zM2 I R G')) ∧ ∀ i, i < n → G' i = zb (!stay (vR R) n i) := by
  rw [k155_0]
  have h : ∀ k q (G : Nat → Int32), q + k = n → (∀ i, i < q → G i = zb (!stay (vR R) n i)) → ∃ G', zr X 155 2 [.ref 160, .int (nI q), .null, .null] [] (zk (zM2 I R G)) = zr X 155 50 [.ref 160, .int 0, .null, .null] [] (zk (zM2 I R G')) ∧ ∀ i, i < n → G' i = zb (!stay (vR R) n i) := by
    intro k
    induction k with
    | zero =>
      intro q G hq hG
      have e : q = n := by omega
      subst e
      exact ⟨G, by rw [k155_2, zM2_a, hs, if_pos (nI_le (Nat.le_refl _) (by omega)), k155_48], hG⟩
    | succ k ih =>
      intro q G hq hG
      have hq2 : q < n := by omega
      have hq0 := zin_nI (show q < 20 by omega) (show (20 : Nat) < 2 ^ 31 by decide)
      have ez : zx (nI q) = q := zx_nI (by omega)
      have hnx : ∀ v, v = zb (!stay (vR R) n q) → ∃ G', zr X 155 2 [.ref 160, .int (nI (q + 1)), .null, .null] [] (zk (zM2 I R (upd G q v))) = zr X 155 50 [.ref 160, .int 0, .null, .null] [] (zk (zM2 I R G')) ∧ ∀ i, i < n → G' i = zb (!stay (vR R) n i) := by
        rintro v rfl
        refine ih (q + 1) _ (by omega) (fun i hi => ?_)
        rw [upd_at]
        by_cases e : i = q
        · rw [if_pos e, e]
        · rw [if_neg e]
          exact hG i (by omega)
      rw [k155_2, zM2_a, hs, if_neg (nI_ge hq2 (by omega)), k155_13, m117_5 (by omega), zcb_some, zn_one, k155_24, vM_M2]
      by_cases a : vR R 5 q = 0
      · rw [if_neg (fun z => z a), k155_27, m126 hn (by rw [zM2_a]; exact hs) (by omega), zcb_some, zn_one, k155_33, vM_M2]
        have hc : (sCnt (vR R) n q 1 ≤ 0) ↔ sAny (vR R) n q 1 = false := by
          rw [← sCnt_0 hn]
          unfold sCnt
          rw [sN_zct]
          have hz := zct_le (fun i => !(nI i == nI q) && (vR R 5 i == 1 && sC (vR R) q i)) n
          rw [show (0 : Int32) = nI 0 from nI_0.symm, nI_le_iff (by omega) (by decide), nI_inj (by omega) (by decide)]
          omega
        by_cases b : sAny (vR R) n q 1 = true
        · rw [if_neg (fun z => by rw [hc.mp z] at b; cases b), k155_36 hq0, ez, zM2_sb, ← nI_succ]
          exact hnx _ (by unfold stay; rw [b, Bool.not_true, Bool.and_false]; rfl)
        · rw [Bool.not_eq_true] at b
          rw [if_pos (hc.mpr b), k155_40 hq0, ez, zM2_sb, ← nI_succ]
          exact hnx _ (by unfold stay; rw [b, a]; rfl)
      · rw [if_pos a, k155_36 hq0, ez, zM2_sb, ← nI_succ]
        exact hnx _ (by unfold stay; rw [decide_eq_false a, Bool.false_and]; rfl)
  have h1 := h n 0 G (by omega) (fun i hi => absurd hi (Nat.not_lt_zero _))
  rw [nI_0] at h1
  exact h1
/-- their gaps -/
theorem m155b {t n : Nat} {S G : Nat → Int32} (hn : n ≤ 20) (hs : S 66 = nI n) (hu : okU t n (vR S) (fun i => zb (decide (vR S 5 i = 1)))) (hU : ∀ i, i < n → I 167 i = zb (decide (vR S 5 i = 1))) (hG : ∀ i, i < n → G i = zb (!stay (vR S) n i)) : ∃ w : Value, zr X 155 50 [.ref 160, .int 0, .null, .null] [] (zk (zM2 I S G)) = zr X 155 128 [.ref 160, .int 0, w, .null] [] (zk (zM2 I (gS S n n) G)) := by
  have ht := hu.1
  have h : ∀ k q (w : Value), q + k = n → ∃ w' : Value, zr X 155 50 [.ref 160, .int (nI q), w, .null] [] (zk (zM2 I (gS S n q) G)) = zr X 155 128 [.ref 160, .int 0, w', .null] [] (zk (zM2 I (gS S n n) G)) := by
    intro k
    induction k with
    | zero =>
      intro q w hq
      have e : q = n := by omega
      subst e
      exact ⟨w, by rw [k155_50, zM2_a, gS_out (by omega), hs, if_pos (nI_le (Nat.le_refl _) (by omega)), k155_126]⟩
    | succ k ih =>
      intro q w hq
      have hq2 : q < n := by omega
      have hq0 := zin_nI (show q < 20 by omega) (show (20 : Nat) < 2 ^ 31 by decide)
      have ez : zx (nI q) = q := zx_nI (by omega)
      have hs2 : gS S n q 66 = nI n := by rw [gS_out (by omega)]; exact hs
      obtain ⟨w1, w2, w3, w4, w5, w6, w7, -⟩ := wM_N (hu.2.1 q hq2) ht
      have hrow : ∀ w, w < 12 → vR (gS S n q) w q = vR S w q := fun w hw => by rw [gS_at hw, if_neg (Nat.lt_irrefl _)]
      have hUa : ∀ i, i < n → I 167 i ≠ 0 → vR S 5 i = 1 := fun i hi z => by
        rw [hU i hi] at z
        exact zb_nz.mp z
      have m0 := m154 (X := X) (I := zM2 I (gS S n q) G) (f := false) (g := bN (vR S) q) hn (by rw [zM2_a]; exact hs2) (by omega)
      rw [vM_M2, zM2_o (by decide) (by decide), aEq_sCr gS_aEq hUa, sCr_num ht (by omega) hu.2.1 hU, zb_f] at m0
      have m1 := m154 (X := X) (I := zM2 I (gS S n q) G) (f := true) (g := aN (vR S) q) hn (by rw [zM2_a]; exact hs2) (by omega)
      rw [vM_M2, zM2_o (by decide) (by decide), aEq_sCr gS_aEq hUa, sCr_num ht (by omega) hu.2.1 hU, zb_t] at m1
      have l2 := fun (J : Nat → Nat → Int32) (x : Int32) => m118 (X := X) (I := J) (v := x) (w := 2) (i := q) (by omega) (by decide)
      have l3 := fun (J : Nat → Nat → Int32) (x : Int32) => m118 (X := X) (I := J) (v := x) (w := 3) (i := q) (by omega) (by decide)
      rw [show nI 2 = (2 : Int32) from rfl] at l2
      rw [show nI 3 = (3 : Int32) from rfl] at l3
      rw [k155_50, zM2_a, hs2, if_neg (nI_ge hq2 (by omega)), k155_61 hq0, ez, zM2_b, hG q hq2]
      by_cases a : stay (vR S) n q = true
      · rw [a, if_neg (fun z => z rfl), k155_70, m117_3 (by omega), zcb_some, zn_one, k155_77, vM_M2, hrow 3 (by decide), w3, m0, zcb_some, zn_one, k155_81, m117_1 (by omega), zcb_some, zn_one, k155_91, vM_M2, hrow 1 (by decide), w1]
        have hfin : ∀ x, x = nI (nA (vR S) n q) → ∃ w' : Value, zr X 155 113 [.ref 160, .int (nI q), .int (nI (cg (vR S) n false (bN (vR S) q))), .null] [] (zk (zs1 (zM2 I (gS S n q) G) 161 (67 + 12 * q + 2) x)) = zr X 155 128 [.ref 160, .int 0, w', .null] [] (zk (zM2 I (gS S n n) G)) := by
          rintro x rfl
          rw [k155_113, l3, zcb_some, zn_nil, k155_120, zM2_sa, zM2_sa, ← nI_succ]
          have e := gS_st (S := S) a
          unfold nB at e
          rw [e]
          exact ih (q + 1) _ (by omega)
        by_cases k1 : kN (vR S) q = 1
        · rw [k1, if_neg (fun z => z rfl), k155_95, l2, zcb_some, zn_nil]
          exact hfin _ (by unfold nA nB; rw [if_pos k1])
        · rw [if_pos (show ¬ nI (kN (vR S) q) = 1 from fun z => k1 ((nI_inj (b := 1) (by omega) (by decide)).mp z)), k155_99, m117_2 (by omega), zcb_some, zn_one, k155_106, vM_M2, hrow 2 (by decide), w2, m1, zcb_some, zn_one, k155_110, l2, zcb_some, zn_nil]
          exact hfin _ (by unfold nA; rw [if_neg k1])
      · rw [Bool.not_eq_true] at a
        rw [a, if_pos (by decide), k155_120, ← nI_succ, ← gS_no a]
        exact ih (q + 1) _ (by omega)
  have h1 := h n 0 .null (by omega)
  rw [nI_0, gS_0] at h1
  exact h1
/-- is there a twin ahead of it that is kept -/
theorem kL_any {st : Nat → Bool} {tw : Nat → Nat → Bool} {q : Nat → Bool} : ∀ n, (kL st tw n).any q = zan (fun o => kp st tw o && q o) 0 n
  | n => by
    apply Bool.eq_iff_iff.mpr
    rw [zan_true, List.any_eq_true]
    constructor
    · rintro ⟨x, hx, hq⟩
      obtain ⟨h1, h2⟩ := (kL_mem n).mp hx
      exact ⟨x, Nat.zero_le _, by omega, by rw [h2, hq]; rfl⟩
    · rintro ⟨j, -, hj, hp⟩
      rw [Bool.and_eq_true] at hp
      exact ⟨j, (kL_mem n).mpr ⟨by omega, hp.1⟩, hp.2⟩
theorem m155in {n m : Nat} {R : Nat → Int32} {kq : Nat → Bool} (hn : n ≤ 20) (hm : m < n) : ∀ k o (G : Nat → Int32) (w : Value), o + k = m → G m = 0 → (∀ i, i < m → G i = zb (!kq i)) → ∃ (G' : Nat → Int32) (x : Int32) (w' : Value), zr X 155 141 [.ref 160, .int (nI m), .int (nI o), w] [] (zk (zM2 I R G)) = zr X 155 241 [.ref 160, .int (nI m), .int x, w'] [] (zk (zM2 I R G')) ∧ (∀ i, i ≠ m → G' i = G i) ∧ G' m = zb (zan (fun o => kq o && twin (vR R) m o) o k)
  | 0, o, G, w, ho, h0, hG => by
    have e : o = m := by omega
    subst e
    exact ⟨G, nI o, w, by rw [k155_141, if_pos (nI_le (Nat.le_refl _) (by omega))], fun _ _ => rfl, h0⟩
  | k + 1, o, G, w, ho, h0, hG => by
    have ho2 : o < m := by omega
    have hm0 := zin_nI (show m < 20 by omega) (show (20 : Nat) < 2 ^ 31 by decide)
    have em : zx (nI m) = m := zx_nI (by omega)
    have ho0 := zin_nI (show o < 20 by omega) (show (20 : Nat) < 2 ^ 31 by decide)
    have eo : zx (nI o) = o := zx_nI (by omega)
    have hu0 : upd G m 0 = G := by
      funext i
      rw [upd_at]
      by_cases e : i = m
      · rw [if_pos e, e, h0]
      · rw [if_neg e]
    -- it is none
    have hno : (kq o && twin (vR R) m o) = false → ∀ x : Int32, ∃ (G' : Nat → Int32) (x' : Int32) (w' : Value), zr X 155 233 [.ref 160, .int (nI m), .int (nI o), .int x] [.int (nI m), .ref 169] (zk (zM2 I R G)) = zr X 155 241 [.ref 160, .int (nI m), .int x', w'] [] (zk (zM2 I R G')) ∧ (∀ i, i ≠ m → G' i = G i) ∧ G' m = zb (zan (fun o => kq o && twin (vR R) m o) o (k + 1)) := by
      intro hf x
      rw [k155_233 hm0, em, zM2_sb, hu0, ← nI_succ]
      show ∃ (G' : Nat → Int32) (x' : Int32) (w' : Value), _ ∧ _ ∧ G' m = zb ((kq o && twin (vR R) m o) || zan (fun o => kq o && twin (vR R) m o) (o + 1) k)
      rw [hf, Bool.false_or]
      exact m155in hn hm k (o + 1) G _ (by omega) h0 hG
    have hno2 : (kq o && twin (vR R) m o) = false → ∀ w, ∃ (G' : Nat → Int32) (x' : Int32) (w' : Value), zr X 155 203 [.ref 160, .int (nI m), .int (nI o), w] [] (zk (zM2 I R G)) = zr X 155 241 [.ref 160, .int (nI m), .int x', w'] [] (zk (zM2 I R G')) ∧ (∀ i, i ≠ m → G' i = G i) ∧ G' m = zb (zan (fun o => kq o && twin (vR R) m o) o (k + 1)) := by
      intro hf w
      rw [k155_203, if_pos rfl]
      exact hno hf 0
    rw [k155_141, if_neg (nI_ge ho2 (by omega)), k155_146 hm0, em, zM2_b, h0, if_neg (fun z => z rfl), k155_155 ho0, eo, zM2_b, hG o ho2]
    have hT : twin (vR R) m o = (decide (vR R 1 m = 1) && (decide (vR R 1 o = 1) && (decide (vR R 0 o = vR R 0 m) && decide (vR R 2 o = vR R 2 m)))) := rfl
    by_cases a : kq o = true
    · rw [a, if_neg (fun z => z rfl), k155_164, m117_1 (by omega), zcb_some, zn_one, k155_170, vM_M2]
      by_cases b1 : vR R 1 m = 1
      · rw [if_neg (fun z => z b1), k155_174, m117_1 (by omega), zcb_some, zn_one, k155_180, vM_M2]
        by_cases b2 : vR R 1 o = 1
        · rw [if_neg (fun z => z b2), k155_184, m117_0 (by omega), zcb_some, zn_one, k155_190, m117_0 (by omega), zcb_some, zn_one, k155_196, vM_M2]
          by_cases b3 : vR R 0 m = vR R 0 o
          · rw [if_neg (fun z => z b3), k155_199, if_neg (by decide), k155_214, m117_2 (by omega), zcb_some, zn_one, k155_220, m117_2 (by omega), zcb_some, zn_one, k155_226, vM_M2]
            by_cases b4 : vR R 2 m = vR R 2 o
            · have hT1 : (kq o && twin (vR R) m o) = true := by rw [hT, a, b1, b2, b3, b4]; simp
              rw [if_neg (fun z => z b4), k155_229 hm0, em, zM2_sb, ← nI_succ]
              refine ⟨upd G m 1, nI (o + 1), .int 1, ?_, fun i hi => by rw [upd_at, if_neg hi], ?_⟩
              · by_cases e : o + 1 = m
                · rw [k155_141, if_pos (nI_le (by omega) (by omega))]
                · rw [k155_141, if_neg (nI_ge (show o + 1 < m by omega) (by omega)), k155_146 hm0, em, zM2_b, upd_at, if_pos rfl, if_pos (by decide)]
              · rw [upd_at, if_pos rfl]
                show 1 = zb ((kq o && twin (vR R) m o) || _)
                rw [hT1]
                rfl
            · rw [if_pos b4]
              exact hno (by rw [hT, decide_eq_false (show ¬ vR R 2 o = vR R 2 m from fun z => b4 z.symm)]; simp) _
          · rw [if_pos b3]
            exact hno2 (by rw [hT, decide_eq_false (show ¬ vR R 0 o = vR R 0 m from fun z => b3 z.symm)]; simp) _
        · rw [if_pos b2]
          exact hno2 (by rw [hT, decide_eq_false b2]; simp) _
      · rw [if_pos b1]
        exact hno2 (by rw [hT, decide_eq_false b1]; simp) _
    · rw [Bool.not_eq_true] at a
      rw [a, if_pos (by decide)]
      exact hno2 (by rw [a]; rfl) _
/-- twins go -/
theorem m155c {n : Nat} {R G : Nat → Int32} {st : Nat → Bool} {w : Value} (hn : n ≤ 20) (hs : R 66 = nI n) (hG : ∀ i, i < n → G i = zb (!st i)) : ∃ G', zr X 155 128 [.ref 160, .int 0, w, .null] [] (zk (zM2 I R G)) = some (none, zk (zM2 I R G')) ∧ ∀ i, i < n → G' i = zb (!kp st (twin (vR R)) i) := by
  have h : ∀ k m (G : Nat → Int32) (w w2 : Value), m + k = n → (∀ i, i < m → G i = zb (!kp st (twin (vR R)) i)) → (∀ i, m ≤ i → i < n → G i = zb (!st i)) → ∃ G', zr X 155 128 [.ref 160, .int (nI m), w, w2] [] (zk (zM2 I R G)) = some (none, zk (zM2 I R G')) ∧ ∀ i, i < n → G' i = zb (!kp st (twin (vR R)) i) := by
    intro k
    induction k with
    | zero =>
      intro m G w w2 hm h1 h2
      have e : m = n := by omega
      subst e
      exact ⟨G, by rw [k155_128, zM2_a, hs, if_pos (nI_le (Nat.le_refl _) (by omega)), k155_247], h1⟩
    | succ k ih =>
      intro m G w w2 hm h1 h2
      have hm2 : m < n := by omega
      rw [k155_128, zM2_a, hs, if_neg (nI_ge hm2 (by omega)), k155_139]
      have hkp : kp st (twin (vR R)) m = (st m && !zan (fun o => kp st (twin (vR R)) o && twin (vR R) m o) 0 m) := by
        conv => lhs; unfold kp
        rw [kL_any]
      by_cases a : st m = true
      · obtain ⟨G1, x, w3, g1, g2, g3⟩ := m155in (X := X) (I := I) (R := R) (kq := kp st (twin (vR R))) hn hm2 m 0 G w2 (by omega) (by rw [h2 m (Nat.le_refl _) hm2, a]; rfl) h1
        rw [nI_0] at g1
        rw [g1, k155_241, ← nI_succ]
        refine ih (m + 1) G1 _ _ (by omega) (fun i hi => ?_) (fun i i1 i2 => by rw [g2 i (by omega)]; exact h2 i (by omega) i2)
        by_cases e : i = m
        · rw [e, g3, hkp, a, Bool.true_and, Bool.not_not]
        · rw [g2 i e]
          exact h1 i (by omega)
      · rw [Bool.not_eq_true] at a
        have hx : zr X 155 141 [.ref 160, .int (nI m), .int 0, w2] [] (zk (zM2 I R G)) = zr X 155 241 [.ref 160, .int (nI m), .int 0, w2] [] (zk (zM2 I R G)) := by
          rw [k155_141]
          by_cases e : nI m ≤ 0
          · rw [if_pos e]
          · rw [if_neg e, k155_146 (zin_nI (by omega) (by decide)), zx_nI (by omega), zM2_b, h2 m (Nat.le_refl _) hm2, a, if_pos (by decide)]
        rw [hx, k155_241, ← nI_succ]
        refine ih (m + 1) G _ _ (by omega) (fun i hi => ?_) (fun i i1 i2 => h2 i (by omega) i2)
        by_cases e : i = m
        · rw [e, h2 m (Nat.le_refl _) hm2, hkp, a, Bool.false_and]
        · exact h1 i (by omega)
  have h1 := h n 0 G w .null (by omega) (fun i hi => absurd hi (Nat.not_lt_zero _)) (fun i _ hi => hG i hi)
  rw [nI_0] at h1
  exact h1
theorem m155 {t n : Nat} {S : Nat → Int32} (hn : n ≤ 20) (hS : I 161 = S) (hs : S 66 = nI n) (hu : okU t n (vR S) (fun i => zb (decide (vR S 5 i = 1)))) (hU : ∀ i, i < n → I 167 i = zb (decide (vR S 5 i = 1))) : ∃ G, zr X 155 0 [.ref 160, .null, .null, .null] [] (zk I) = some (none, zk (zM2 I (gS S n n) G)) ∧ ∀ i, i < n → G i = zb (!kp (stay (vR S) n) (twin (vR (gS S n n))) i) := by
  obtain ⟨G1, a1, a2⟩ := m155a (X := X) (I := I) (R := S) (G := I 169) hn hs
  obtain ⟨w, b1⟩ := m155b (X := X) (I := I) (G := G1) hn hs hu hU a2
  obtain ⟨G2, c1, c2⟩ := m155c (X := X) (I := I) (R := gS S n n) (G := G1) (w := w) hn (by rw [gS_out (by omega)]; exact hs) a2
  have e : zM2 I S (I 169) = I := by rw [← hS]; exact zM2_id
  rw [e] at a1
  exact ⟨G2, by rw [a1, b1, c1], c2⟩
end S5
