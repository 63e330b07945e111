/-! VERSIONS: their letters, how far they are apart -/
theorem zI_sub {a b : Nat} (h : b ≤ a) : nI a - nI b = nI (a - b) := by
  obtain ⟨k, rfl⟩ := Nat.exists_eq_add_of_le h
  rw [Nat.add_comm, zI_add, show k + b - b = k by omega]
  exact Int32.add_sub_cancel _ _
theorem nI_min {a b : Nat} (ha : a < 2 ^ 31) (hb : b < 2 ^ 31) : (if nI a < nI b then nI a else nI b) = nI (min a b) := by
  by_cases h : a < b
  · rw [if_pos (nI_lt h hb), show min a b = a by omega]
  · rw [if_neg (nI_nlt (by omega) ha), show min a b = b by omega]
theorem one_nI (a : Nat) : (1 : Int32) + nI a = nI (a + 1) := by rw [Nat.add_comm, zI_add]; rfl
/-- the distances of a beginning of the one to each beginning of the other, from those of the one ahead -/
def dstep (p : Nat → Nat) (i : Nat) (e : Nat → Nat) : Nat → Nat
  | 0 => i + 1
  | j + 1 => min (p j + e j) (min (p (j + 1)) (dstep p i e j) + 1)
def dE (f g : Nat → Int32) (i j : Nat) : Nat := if f i = g j then 0 else 1
def dst (f g : Nat → Int32) : Nat → Nat → Nat
  | 0 => fun j => j
  | i + 1 => dstep (dst f g i) i (dE f g i)
theorem dst_le {f g : Nat → Int32} : ∀ i j, dst f g i j ≤ i + j
  | 0, j => by show j ≤ 0 + j; omega
  | i + 1, 0 => by show i + 1 ≤ _; omega
  | i + 1, j + 1 => by
    have := dst_le (f := f) (g := g) i (j + 1)
    show min _ (min (dst f g i (j + 1)) _ + 1) ≤ _
    omega
theorem dst_S {f g : Nat → Int32} {i j : Nat} : dst f g (i + 1) (j + 1) = min (dst f g i j + dE f g i j) (min (dst f g i (j + 1)) (dst f g (i + 1) j) + 1) := rfl
theorem dstep_at {p p' : Nat → Nat} {i : Nat} {e e' : Nat → Nat} : ∀ j, (∀ k, k ≤ j → p k = p' k) → (∀ k, k < j → e k = e' k) → dstep p i e j = dstep p' i e' j
  | 0, _, _ => rfl
  | j + 1, h, h2 => by
    show min (p j + e j) (min (p (j + 1)) (dstep p i e j) + 1) = min (p' j + e' j) (min (p' (j + 1)) (dstep p' i e' j) + 1)
    rw [h j (by omega), h2 j (by omega), h (j + 1) (by omega), dstep_at j (fun k hk => h k (by omega)) (fun k hk => h2 k (by omega))]
theorem dst_at {f f' g g' : Nat → Int32} : ∀ i j, (∀ k, k < i → f k = f' k) → (∀ k, k < j → g k = g' k) → dst f g i j = dst f' g' i j
  | 0, _, _, _ => rfl
  | i + 1, j, h, h2 => by
    refine dstep_at j (fun k hk => dst_at i k (fun q hq => h q (by omega)) (fun q hq => h2 q (by omega))) (fun k hk => ?_)
    unfold dE
    rw [h i (by omega), h2 k hk]
section A3
variable {X : Nat × (Nat → Int32)} {I : Nat → Nat → Int32}
theorem c185 {x : Nat} (h : x < 700) : zr X 185 0 [.int (nI x), .int 6, .null] [] (zk I) = some (some (.int (nI (x % 6))), zk I) := by
  obtain ⟨h1, h2⟩ := rem6_all x h
  rw [k185_0 (by decide), if_pos h1, k185_18, h2]
theorem c76 {vv j : Nat} (hv : vv < 700) (hs : I 13 2 = nI vv) (hj : j < vv) : zr X 76 0 [.ref 13, .int (nI j)] [] (zk I) = some (some (.int (nI ((vv - 1 - j) % 6))), zk I) := by
  rw [k76_0, hs, show (1 : Int32) = nI 1 from rfl, zI_sub (by omega), zI_sub (by omega), c185 (by omega), zcb_some, zn_one, k76_13]
theorem c71 {vv : Nat} (hv : vv < 700) (hs : I 13 2 = nI vv) : zr X 71 0 [.ref 13] [] (zk I) = some (some (.int (nI (min vv 6))), zk I) := by
  rw [k71_0, hs]
  by_cases h6 : 6 < vv
  · rw [if_pos (show (6 : Int32) < nI vv from nI_lt (a := 6) h6 (by omega)), show min vv 6 = 6 by omega]
    rfl
  · rw [if_neg (show ¬ (6 : Int32) < nI vv from nI_nlt (a := 6) (by omega) (by decide)), show min vv 6 = vv by omega]
theorem c72n {vv : Nat} {v : Int32} (hv : vv < 700) (hs : I 13 2 = nI vv) (h : v < 0 ∨ nI (min vv 6) ≤ v) : zr X 72 0 [.ref 13, .int v] [] (zk I) = some (some (.int 0), zk I) := by
  rw [k72_0]
  by_cases h1 : v < 0
  · rw [if_pos h1, k72_16]
  · rw [if_neg h1, k72_4, c71 hv hs, zcb_some, zn_one, k72_9, if_pos (h.resolve_left h1), k72_16]
theorem c72y {vv j : Nat} (hv : vv < 700) (hs : I 13 2 = nI vv) (h : j < min vv 6) : zr X 72 0 [.ref 13, .int (nI j)] [] (zk I) = some (some (.int 1), zk I) := by
  rw [k72_0, if_neg (nI_pos (by omega)), k72_4, c71 hv hs, zcb_some, zn_one, k72_9, if_neg (nI_ge h (by omega)), k72_12]
theorem c74y {vv j : Nat} (hv : vv < 700) (hs : I 13 2 = nI vv) (h : j < min vv 6) : zr X 74 0 [.ref 13, .int (nI j)] [] (zk I) = some (some (.int (I 15 ((vv - 1 - j) % 6))), zk I) := by
  have hm : (vv - 1 - j) % 6 < 6 := Nat.mod_lt _ (by decide)
  rw [k74_0, c72y hv hs h, zcb_some, zn_one, k74_5, if_neg (by decide), k74_8, c76 hv hs (by omega), zcb_some, zn_one, k74_17 (zin_nI hm (by decide)), zx_nI (by omega)]
theorem m166n {k : Nat} {v : Int32} (hk : k ≤ 6) (hs : I 161 308 = nI k) (h : v < 0 ∨ nI k ≤ v) : zr X 166 0 [.ref 160, .int v] [] (zk I) = some (some (.int 0), zk I) := by
  rw [k166_0, m116, zcb_some, zn_one, k166_15 (zb_01 _), hs]
  rcases h with h | h
  · simp [h, zb]
  · have h2 : nI k - 1 < v := by
      have e : nI k - 1 < nI k := by
        have hx : ∀ n : Nat, n ≤ 6 → nI n - 1 < nI n := by decide
        exact hx k hk
      exact Int32.lt_of_lt_of_le e h
    simp [h2, zb]
theorem m166y {k j : Nat} (hk : k ≤ 6) (hs : I 161 308 = nI k) (h : j < k) : zr X 166 0 [.ref 160, .int (nI j)] [] (zk I) = some (some (.int 1), zk I) := by
  have e : nI k - 1 = nI (k - 1) := zI_sub (b := 1) (by omega)
  rw [k166_0, hs, e, m116y (by omega) (by omega), zcb_some, zn_one, k166_15 (Or.inr rfl)]
/-- version -/
theorem p_version {c : Nat} (hI : Inv c I) (h600 : c ≤ 600) (v w : Int32) : Call X c I 103 [.ref 1, .int v, .int w] 167 [.ref 160, .int v, .int w, .null] := by
  have hend := inv_q hI cQ_rf (mQ_th (v := 0))
  obtain ⟨⟨⟨-, -, -, d1, d2⟩, -, -, vv, hvv, hv2, hv3, hv4⟩, -⟩ := hI
  have hv7 : vv < 700 := by omega
  have hs : I 13 2 = nI vv := d1.trans hv2
  have hk : min vv 6 ≤ 6 := by omega
  have hS0 : zs1 I 160 0 0 161 308 = nI (min vv 6) := by rw [th_161]; exact hv3
  rcases mk_cases (n := min vv 6) (by omega) v with hb | ⟨j, hj, rfl⟩
  · refine ⟨-1, I, zs1 I 160 0 0, ?_, ?_, hend⟩
    · rw [k103_0, c72n hv7 hs hb, zcb_some, zn_one, k103_11, if_neg (by decide), k103_14]
    · rw [k167_0, m166n hk hS0 hb, zcb_some, zn_one, k167_10, if_neg (by decide), k167_13]
  · obtain ⟨l, hl, hl2⟩ := hv4 j hj
    have hm : (vv - 1 - j) % 6 < 6 := Nat.mod_lt _ (by decide)
    obtain ⟨f1, f2⟩ := d2 j (by rw [hv3, zx_nI (by omega)]; exact hj)
    rw [hv2, zx_nI (by omega)] at f1 f2
    rw [hl2, zx_nI (by omega)] at f2
    have f1' : I 15 ((vv - 1 - j) % 6) = nI l := f1.trans hl2
    have e309 : (309 : Int32) + 61 * nI j = nI (309 + 61 * j) := by
      rw [zI_add, zI_mul]
      rfl
    by_cases hw : w = -6
    · refine ⟨nI l, I, zs1 I 160 0 0, ?_, ?_, hend⟩
      · rw [k103_0, c72y hv7 hs hj, zcb_some, zn_one, k103_11, if_pos (by decide), k103_16, if_neg (fun z => z hw), k103_22, c74y hv7 hs hj, zcb_some, zn_one, k103_33, f1']
      · rw [k167_0, m166y hk hS0 hj, zcb_some, zn_one, k167_10, if_pos (by decide), k167_15, if_neg (fun z => z hw), e309, k167_30 (zin_nI (by omega) (by decide)), zx_nI (by omega), th_161, hl2]
    · rcases mk_cases (n := l) (by omega) w with hb | ⟨k, hk2, rfl⟩
      · refine ⟨-1, I, zs1 I 160 0 0, ?_, ?_, hend⟩
        · rw [k103_0, c72y hv7 hs hj, zcb_some, zn_one, k103_11, if_pos (by decide), k103_16, if_pos hw, k103_34, k75_0]
          by_cases h0 : w < 0
          · rw [if_pos h0, k75_13, zcb_some, zn_one, k103_46]
          · rw [if_neg h0, k75_4, c74y hv7 hs hj, zcb_some, zn_one, k75_10, f1', if_neg (Int32.not_lt.mpr (hb.resolve_left h0)), k75_13, zcb_some, zn_one, k103_46]
        · rw [k167_0, m166y hk hS0 hj, zcb_some, zn_one, k167_10, if_pos (by decide), k167_15, if_pos hw, e309, k167_39 (zin_nI (by omega) (by decide)), zx_nI (by omega), th_161, hl2, m116]
          have hx : (decide (¬ w < 0) && decide (¬ nI l - 1 < w)) = false := by
            rcases hb with hb | hb
            · simp [hb]
            · have e : nI l - 1 < nI l := by
                have hx : ∀ n : Nat, n ≤ 60 → nI n - 1 < nI n := by decide
                exact hx l hl
              simp [Int32.lt_of_lt_of_le e hb]
          rw [hx, zcb_some, zn_one, k167_52, if_pos (by decide), k167_68]
      · refine ⟨I 161 (310 + 61 * j + k), I, zs1 I 160 0 0, ?_, ?_, hend⟩
        · have e60 : nI ((vv - 1 - j) % 6) * 60 + nI k = nI ((vv - 1 - j) % 6 * 60 + k) := by
            rw [zI_add, zI_mul]
            rfl
          rw [k103_0, c72y hv7 hs hj, zcb_some, zn_one, k103_11, if_pos (by decide), k103_16, if_pos hw, k103_34, k75_0, if_neg (nI_pos (by omega)), k75_4, c74y hv7 hs hj, zcb_some, zn_one, k75_10, f1', if_pos (nI_lt hk2 (by omega)), k75_15, c76 hv7 hs (by omega), zcb_some, zn_one, k75_24 (by rw [e60]; exact zin_nI (by omega) (by decide)), e60, zx_nI (by omega), zcb_some, zn_one, k103_46, Nat.mul_comm, f2 k hk2]
        · have e310 : nI (309 + 61 * j) + 1 + nI k = nI (310 + 61 * j + k) := by
            rw [← nI_succ, ← zI_add]
            congr 1
            omega
          rw [k167_0, m166y hk hS0 hj, zcb_some, zn_one, k167_10, if_pos (by decide), k167_15, if_pos hw, e309, k167_39 (zin_nI (by omega) (by decide)), zx_nI (by omega), th_161, hl2, show (1 : Int32) = nI 1 from rfl, zI_sub (by omega), m116y (by omega) (by omega), zcb_some, zn_one, k167_52, if_neg (by decide), k167_55 (by rw [e310]; exact zin_nI (by omega) (by decide)), e310, zx_nI (by omega), th_161]
end A3
